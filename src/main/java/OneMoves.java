/** A town in whose one street only one thing moves at a time; ../shared/DOC.md tells all of it. */
public final class OneMoves {
    public static final int BAD = -1, FULL = -2, NONE = -3, STATE = -4;

    private static final int NOTHING_THERE = -11;
    private static final int OUTSIDE = -12;
    private static final int OTHER_SORT = -13;
    private static final int SIZE_BELOW_0 = -14;
    private static final int PARTED_BY_0 = -15;
    private static final int NO_NUMBER = -9;
    private static final int FAULT_BASE = -100;
    private static final int WORKS_LEFT = 222;

    private static final int MOVERS = 3;
    private static final int THINGS = 6;
    private static final int WORKS = 6;
    private static final int RULES = 4;
    private static final int LAWS = 4;
    private static final int LAST_PLACE = 9;
    private static final int MOST_PACE = 5;
    private static final int MOST_WEIGHT = 9;
    private static final int MOST_DUE = 999;
    private static final int MOST_WORTH = 99;
    private static final int MOST_WITHIN = 99;
    private static final int MOST_PASS = 999;
    private static final int MOST_A = 9;

    private static final int WATER = 0;
    private static final int CALL = 1;
    private static final int LONG = 2;
    private static final int BELL = 3;
    private static final int[] LAW_LEAST = {0, 0, 1, 1};
    private static final int[] LAW_MOST = {9, 8, 30, 20};

    private static final int PLAIN = 0;
    private static final int HEAVY = 1;
    private static final int CART = 2;
    private static final int SLOW = 3;
    private static final int QUICK = 4;
    private static final int OWN = 5;

    private static final int TURN = 1;
    private static final int SOON = 2;
    private static final int WORTHY = 3;
    private static final int KIND = 4;
    private static final int TOLD = 5;
    private static final int LAST_KIND = 5;

    private static final int OPEN = 0;
    private static final int DONE = 1;
    private static final int SPOILT = 2;

    private static final int ROW_CELLS = 3;

    private final Orders orders = new Orders();
    private final Town town = orders.town;
    private final Town kept = new Town();
    private final Town draft = new Town();
    private final Tape tape = new Tape();
    private final Actor actor = new Actor();
    private final Host host = new Host();
    private final int[] rows = new int[WORKS * ROW_CELLS];
    private int rowCount = 0;
    private boolean somethingKept = false;

    public OneMoves() {
    }

    // ---- the town

    public int feed(long eight, int n) {
        if (n < 1 || n > 8) {
            return BAD;
        }
        return tape.append(eight, n) ? tape.length : FULL;
    }

    public int town() {
        draft.clear();
        draft.takeLaws(town);
        int fault = tape.readInto(draft);
        tape.length = 0;
        if (fault >= 0) {
            return FAULT_BASE - fault;
        }
        town.takeTown(draft);
        rowCount = 0;
        return town.works;
    }

    public int mover(int place, int pace) {
        if (!isWithin(place, 0, LAST_PLACE) || !isWithin(pace, 1, MOST_PACE)) {
            return BAD;
        }
        return town.movers < MOVERS ? town.addMover(place, pace) : FULL;
    }

    public int thing(int place, int weight) {
        if (!isWithin(place, 0, LAST_PLACE) || !isWithin(weight, 1, MOST_WEIGHT)) {
            return BAD;
        }
        return town.things < THINGS ? town.addThing(place, weight) : FULL;
    }

    public int work(int kind, int mover, int thing, int to, int due, int worth) {
        boolean told = isWithin(kind, 0, LAST_KIND)
            && isWithin(mover, 0, town.movers - 1)
            && isWithin(thing, 0, town.things - 1)
            && isWithin(to, 0, LAST_PLACE)
            && isWithin(due, 0, MOST_DUE)
            && isWithin(worth, 0, MOST_WORTH);
        if (!told) {
            return BAD;
        }
        return town.works < WORKS ? town.addWork(kind, mover, thing, to, due, worth) : FULL;
    }

    public int behind(int work, int other, int within) {
        if (!town.hasWork(work) || !isWithin(other, -1, work - 1) || !isWithin(within, 0, MOST_WITHIN)) {
            return BAD;
        }
        if (town.now.state[work] != OPEN) {
            return STATE;
        }
        Work w = town.list[work];
        int was = w.behind;
        w.behind = other;
        w.within = within;
        return orNone(was);
    }

    public int workOf(int work, int what) {
        if (!town.hasWork(work)) {
            return BAD;
        }
        Work w = town.list[work];
        switch (what) {
            case 0: return w.kind;
            case 1: return w.mover;
            case 2: return w.thing;
            case 3: return w.to;
            case 4: return w.due;
            case 5: return w.worth;
            case 6: return orNone(w.behind);
            case 7: return w.within;
            case 8: return town.now.state[work];
            case 9: return town.now.state[work] == DONE ? town.now.end[work] : NO_NUMBER;
            default: return BAD;
        }
    }

    public int at(int what, int k) {
        return town.isThere(what, k) ? town.now.placesOf(what)[k] : BAD;
    }

    public int put(int what, int k, int place) {
        if (!town.isThere(what, k) || !isWithin(place, 0, LAST_PLACE)) {
            return BAD;
        }
        int[] places = town.now.placesOf(what);
        int was = places[k];
        places[k] = place;
        return was;
    }

    public int set(int law, int v) {
        if (!isWithin(law, 0, LAWS - 1) || !isWithin(v, LAW_LEAST[law], LAW_MOST[law])) {
            return BAD;
        }
        int was = town.laws[law];
        town.laws[law] = v;
        return was;
    }

    public int minute() {
        return town.now.minute;
    }

    public int pass(int n) {
        if (!isWithin(n, 0, MOST_PASS)) {
            return BAD;
        }
        town.now.minute += n;
        return town.now.minute;
    }

    // ---- orders

    public int minutes(int work) {
        return town.hasWork(work) ? town.minutesOf(town.now, work) : BAD;
    }

    public int may() {
        return town.freeOnes(town.now);
    }

    public int does(int work) {
        if (!town.hasWork(work)) {
            return BAD;
        }
        return town.isFree(town.now, work) ? town.carryOut(town.now, work) : STATE;
    }

    /** What works were worth as they were done: dues() may have told other DUES since then. */
    public int had() {
        return town.now.gained;
    }

    public int worth(int digits) {
        int refusal = orders.readDigits(digits);
        return refusal < 0 ? refusal : orders.runCalled(0).gained;
    }

    public int ends(int digits, int work) {
        if (!town.isOpen(town.now, work)) {
            return BAD;
        }
        int refusal = orders.readDigits(digits);
        if (refusal < 0) {
            return refusal;
        }
        Stand then = orders.runCalled(0);
        return then.state[work] == DONE ? then.end[work] : NO_NUMBER;
    }

    public int best(int what) {
        if (!isWithin(what, 0, 1)) {
            return BAD;
        }
        orders.search();
        return what == 0 ? orders.bestWorth : orders.bestDigits;
    }

    public int fewest() {
        orders.search();
        return orders.fewestLate;
    }

    public int shortest() {
        orders.search();
        return orders.leastMinute;
    }

    public long mean(int digits, int part) {
        return fractionOf(digits, part, false);
    }

    public long sure(int digits, int part) {
        return fractionOf(digits, part, true);
    }

    public int bell(int work) {
        return town.isOpen(town.now, work) ? orders.endByTheBell(work) : BAD;
    }

    // ---- rules

    public int rule(int kind, int a) {
        if (!isWithin(kind, 1, LAST_KIND) || !isWithin(a, 0, MOST_A)) {
            return BAD;
        }
        return town.rules < RULES ? town.addRule(kind, a) : FULL;
    }

    public int ruleOf(int rule, int what) {
        if (!town.hasRule(rule) || !isWithin(what, 0, 1)) {
            return BAD;
        }
        return what == 0 ? town.ruleKind[rule] : town.ruleA[rule];
    }

    public int takes(int rule) {
        return town.hasRule(rule) ? orders.choice(town.now, rule) : BAD;
    }

    public int orderOf(int rule) {
        return town.hasRule(rule) ? orders.digitsByRule(rule) : BAD;
    }

    // ---- rows

    public int prove() {
        orders.search();
        rowCount = orders.writeBestRows(rows);
        return rowCount;
    }

    public int row(int i, int what) {
        return hasCell(i, what) ? rows[i * ROW_CELLS + what] : NO_NUMBER;
    }

    public int alterRow(int i, int what, int v) {
        if (!hasCell(i, what)) {
            return NO_NUMBER;
        }
        int was = rows[i * ROW_CELLS + what];
        rows[i * ROW_CELLS + what] = v;
        return was;
    }

    public int judge() {
        return orders.firstWrongRow(rows, rowCount);
    }

    public int dues(int sheet) {
        int refusal = host.refusalOf(sheet, Host.INTS);
        if (refusal < 0) {
            return refusal;
        }
        int n = Math.min(host.lengths[sheet], town.works);
        for (int k = 0; k < n; k++) {
            int due = (int) host.items[sheet][k];
            town.list[k].due = Math.max(0, Math.min(MOST_DUE, due));
        }
        return n;
    }

    // ---- the host

    public int sheet(int sheet, int sort, int n) {
        if (!Host.isNumber(sheet) || !isWithin(sort, Host.MISSING, Host.LAST_SORT)) {
            return BAD;
        }
        if (sort == Host.MISSING) {
            host.makeRow(sheet, sort, 0);
            return 1;
        }
        if (n > Host.MOST_ITEMS) {
            return BAD;
        }
        if (n < 0) {
            return SIZE_BELOW_0;
        }
        host.makeRow(sheet, sort, n);
        return 1;
    }

    public int write(int sheet, int i, int v) {
        if (!Host.isNumber(sheet)) {
            return BAD;
        }
        if (host.sorts[sheet] == Host.MISSING) {
            return NOTHING_THERE;
        }
        if (!isWithin(i, 0, host.lengths[sheet] - 1)) {
            return OUTSIDE;
        }
        host.items[sheet][i] = Host.narrowed(host.sorts[sheet], v);
        return 1;
    }

    public int item(int sheet, int sort, int i) {
        if (!isWithin(sort, 0, Host.LAST_SORT)) {
            return BAD;
        }
        int refusal = host.refusalOf(sheet, sort);
        if (refusal < 0) {
            return refusal;
        }
        return isWithin(i, 0, host.lengths[sheet] - 1) ? (int) host.items[sheet][i] : OUTSIDE;
    }

    public int shelf(int shelf, int what, int n) {
        if (!Host.isNumber(shelf) || !isWithin(what, Host.A_RULE, Host.EMPTY)) {
            return BAD;
        }
        if (what == Host.A_RULE && !town.hasRule(n) || what == Host.A_ROW && !Host.isNumber(n)) {
            return BAD;
        }
        host.layOn(shelf, what, n);
        return 1;
    }

    public int taken(int shelf, int as) {
        boolean asRow = isWithin(as, Host.ROW_BASE, Host.ROW_BASE + Host.LAST_SORT);
        if (!Host.isNumber(shelf) || !asRow && !isWithin(as, 0, LAST_KIND)) {
            return BAD;
        }
        int holds = holdsNow(shelf);
        if (holds == Host.EMPTY) {
            return NOTHING_THERE;
        }
        int number = host.shelfNumbers[shelf];
        if (holds == Host.A_ROW) {
            return asRow && number == as - Host.ROW_BASE ? host.shelfLengths[shelf] : OTHER_SORT;
        }
        return !asRow && Actor.isOrUnder(town.ruleKind[number], as) ? number : OTHER_SORT;
    }

    public int act(int shelf, int act, int x) {
        actor.length = 0;
        if (!Host.isNumber(shelf) || !isWithin(act, 0, Actor.LAST_ACT) || holdsNow(shelf) != Host.A_RULE) {
            return 0;
        }
        int number = host.shelfNumbers[shelf];
        return actor.perform(number, town.ruleKind[number], town.ruleA[number], act, x);
    }

    public int trace(int i) {
        return isWithin(i, 0, actor.length - 1) ? actor.bodies[i] : NONE;
    }

    public int many(int what) {
        switch (what) {
            case 0: return town.movers;
            case 1: return town.things;
            case 2: return town.works;
            case 3: return town.openOnes(town.now);
            case 4: return town.rules;
            case 5: return rowCount;
            case 6: return tape.length;
            case 7: return actor.length;
            default: return BAD;
        }
    }

    // ---- kept

    public int keep() {
        kept.takeAll(town);
        somethingKept = true;
        return 1;
    }

    public int again() {
        if (!somethingKept) {
            return NONE;
        }
        town.takeAll(kept);
        return town.works;
    }

    private long fractionOf(int digits, int part, boolean odds) {
        if (!isWithin(part, 0, 1)) {
            return BAD;
        }
        int refusal = orders.readDigits(digits);
        if (refusal < 0) {
            return refusal;
        }
        orders.average(odds);
        return part == 0 ? orders.above : orders.below;
    }

    private boolean hasCell(int i, int what) {
        return isWithin(i, 0, rowCount - 1) && isWithin(what, 0, ROW_CELLS - 1);
    }

    /** A shelf tells its rule by number alone, so a rule that again() took away leaves it empty. */
    private int holdsNow(int shelf) {
        boolean gone = host.shelfHolds[shelf] == Host.A_RULE && !town.hasRule(host.shelfNumbers[shelf]);
        return gone ? Host.EMPTY : host.shelfHolds[shelf];
    }

    private static boolean isWithin(int v, int least, int most) {
        return v >= least && v <= most;
    }

    private static int orNone(int work) {
        return work < 0 ? NO_NUMBER : work;
    }

    /** What is told of a work; whether it is open yet stands in Stand. */
    private static final class Work {
        int kind = 0;
        int mover = 0;
        int thing = 0;
        int to = 0;
        int due = 0;
        int worth = 0;
        int behind = -1;
        int within = 0;

        void take(Work other) {
            kind = other.kind;
            mover = other.mover;
            thing = other.thing;
            to = other.to;
            due = other.due;
            worth = other.worth;
            behind = other.behind;
            within = other.within;
        }

        int worthAt(int end) {
            return Math.max(0, worth - Math.max(0, end - due));
        }
    }

    /** How all stands at a moment: what works change, so that an order can be tried on a copy. */
    private static final class Stand {
        final int[] moverAt = new int[MOVERS];
        final int[] thingAt = new int[THINGS];
        final int[] state = new int[WORKS];
        final int[] end = new int[WORKS];
        int minute = 0;
        int gained = 0;
        int late = 0;

        void take(Stand other) {
            System.arraycopy(other.moverAt, 0, moverAt, 0, MOVERS);
            System.arraycopy(other.thingAt, 0, thingAt, 0, THINGS);
            System.arraycopy(other.state, 0, state, 0, WORKS);
            System.arraycopy(other.end, 0, end, 0, WORKS);
            minute = other.minute;
            gained = other.gained;
            late = other.late;
        }

        /** An order counts its own gains alone, not what was done ahead of it. */
        void beginFrom(Stand other) {
            take(other);
            gained = 0;
            late = 0;
        }

        int[] placesOf(int what) {
            return what == 0 ? moverAt : thingAt;
        }
    }

    private static final class Town {
        int movers = 0;
        int things = 0;
        int works = 0;
        int rules = 0;
        final int[] pace = new int[MOVERS];
        final int[] weight = new int[THINGS];
        final Work[] list = new Work[WORKS];
        final int[] laws = {0, 1, 5, 3};
        final int[] ruleKind = new int[RULES];
        final int[] ruleA = new int[RULES];
        final Stand now = new Stand();

        Town() {
            for (int w = 0; w < WORKS; w++) {
                list[w] = new Work();
            }
        }

        void clear() {
            movers = 0;
            things = 0;
            works = 0;
            now.minute = 0;
        }

        void takeLaws(Town other) {
            System.arraycopy(other.laws, 0, laws, 0, LAWS);
        }

        /** All but the rules, which a town that is told anew leaves as they are. */
        void takeTown(Town other) {
            movers = other.movers;
            things = other.things;
            works = other.works;
            System.arraycopy(other.pace, 0, pace, 0, MOVERS);
            System.arraycopy(other.weight, 0, weight, 0, THINGS);
            for (int w = 0; w < WORKS; w++) {
                list[w].take(other.list[w]);
            }
            takeLaws(other);
            now.take(other.now);
        }

        void takeAll(Town other) {
            takeTown(other);
            rules = other.rules;
            System.arraycopy(other.ruleKind, 0, ruleKind, 0, RULES);
            System.arraycopy(other.ruleA, 0, ruleA, 0, RULES);
        }

        int addMover(int place, int itsPace) {
            now.moverAt[movers] = place;
            pace[movers] = itsPace;
            movers++;
            return movers - 1;
        }

        int addThing(int place, int itsWeight) {
            now.thingAt[things] = place;
            weight[things] = itsWeight;
            things++;
            return things - 1;
        }

        int addWork(int kind, int mover, int thing, int to, int due, int worth) {
            Work w = list[works];
            w.kind = kind;
            w.mover = mover;
            w.thing = thing;
            w.to = to;
            w.due = due;
            w.worth = worth;
            w.behind = -1;
            w.within = 0;
            now.state[works] = OPEN;
            now.end[works] = 0;
            works++;
            return works - 1;
        }

        int addRule(int kind, int a) {
            ruleKind[rules] = kind;
            ruleA[rules] = a;
            rules++;
            return rules - 1;
        }

        boolean hasWork(int work) {
            return work >= 0 && work < works;
        }

        boolean hasRule(int rule) {
            return rule >= 0 && rule < rules;
        }

        boolean isThere(int what, int k) {
            return k >= 0 && (what == 0 && k < movers || what == 1 && k < things);
        }

        boolean isOpen(Stand s, int work) {
            return hasWork(work) && s.state[work] == OPEN;
        }

        boolean isFree(Stand s, int work) {
            return isOpen(s, work) && !isOpen(s, list[work].behind);
        }

        int freeOnes(Stand s) {
            int set = 0;
            for (int w = 0; w < works; w++) {
                if (isFree(s, w)) {
                    set |= 1 << w;
                }
            }
            return set;
        }

        int openOnes(Stand s) {
            int n = 0;
            for (int w = 0; w < works; w++) {
                if (isOpen(s, w)) {
                    n++;
                }
            }
            return n;
        }

        /** The minute at which n minutes that aren't water's are over. */
        int after(int minute, int n) {
            if (n < 1) {
                return minute;
            }
            int water = laws[WATER];
            int free = Math.max(1, 10 - water);
            int gone = Math.max(0, minute % 10 - water) + n;
            int tens = (gone - 1) / free;
            return minute - minute % 10 + tens * 10 + water + gone - tens * free;
        }

        int minutesOf(Stand s, int work) {
            Work w = list[work];
            int place = s.thingAt[w.thing];
            int load = Math.abs(place - w.to) * weight[w.thing];
            int plain = Math.abs(s.moverAt[w.mover] - place) + partsOf(load, pace[w.mover]);
            int nextWalk = Math.abs(s.moverAt[nextMover(w.mover)] - place);
            switch (w.kind) {
                case HEAVY: return plain + nextWalk;
                case SLOW: return 2 * (plain + nextWalk);
                case CART: return plain + thingsBeside(s, w.thing);
                case QUICK: return partsOf(plain + thingsBeside(s, w.thing), 2);
                case OWN: return load;
                default: return plain;
            }
        }

        int nextMover(int mover) {
            return mover + 1 < movers ? mover + 1 : 0;
        }

        int thingsBeside(Stand s, int thing) {
            int n = 0;
            for (int t = 0; t < things; t++) {
                if (t != thing && s.thingAt[t] == s.thingAt[thing]) {
                    n++;
                }
            }
            return n;
        }

        /** A quotient whose rest counts as one more. */
        static int partsOf(int whole, int by) {
            return by < 1 ? whole : (whole + by - 1) / by;
        }

        boolean spoils(Stand s, Work w) {
            if (!hasWork(w.behind)) {
                return false;
            }
            boolean tooLate = w.within > 0 && s.minute - s.end[w.behind] > w.within;
            return s.state[w.behind] == SPOILT || tooLate;
        }

        /** Does a work that is free, or spoils it: what it is worth. */
        int carryOut(Stand s, int work) {
            Work w = list[work];
            if (spoils(s, w)) {
                s.state[work] = SPOILT;
                s.late++;
                return 0;
            }
            s.minute = after(s.minute, minutesOf(s, work));
            moveAll(s, w);
            s.state[work] = DONE;
            s.end[work] = s.minute;
            if (s.minute > w.due) {
                s.late++;
            }
            int worth = w.worthAt(s.minute);
            s.gained += worth;
            return worth;
        }

        void moveAll(Stand s, Work w) {
            int from = s.thingAt[w.thing];
            if (w.kind == CART || w.kind == QUICK) {
                for (int t = 0; t < things; t++) {
                    if (s.thingAt[t] == from) {
                        s.thingAt[t] = w.to;
                    }
                }
            }
            s.thingAt[w.thing] = w.to;
            if (w.kind != OWN) {
                s.moverAt[w.mover] = w.to;
            }
            if (w.kind == HEAVY || w.kind == SLOW) {
                s.moverAt[nextMover(w.mover)] = w.to;
            }
        }
    }

    /** Tries orders of a town on copies of how it stands; it makes that town, as a constructor may hand out nothing. */
    private static final class Orders {
        private static final int MOST_ROUNDS = 2000;
        private static final int MOST_HALVINGS = 18;

        final Town town = new Town();
        final Stand[] stands = new Stand[WORKS + 1];
        final int[] order = new int[WORKS];
        final int[] left = new int[WORKS];
        int length = 0;
        boolean found = false;
        int bestWorth = 0;
        int bestDigits = 0;
        int fewestLate = 0;
        int leastMinute = 0;
        long above = 0;
        long below = 1;

        Orders() {
            for (int i = 0; i <= WORKS; i++) {
                stands[i] = new Stand();
            }
        }

        /** Takes digits for the order: 0, BAD or STATE. */
        int readDigits(int digits) {
            length = town.openOnes(town.now);
            if (digits < 0 || digits >> 3 * length != 0) {
                return BAD;
            }
            int told = 0;
            boolean allowed = true;
            for (int i = 0; i < length; i++) {
                int w = digits >> 3 * i & 7;
                if (!town.isOpen(town.now, w) || isIn(told, w)) {
                    return BAD;
                }
                int behind = town.list[w].behind;
                if (town.isOpen(town.now, behind) && !isIn(told, behind)) {
                    allowed = false;
                }
                told |= 1 << w;
                order[i] = w;
            }
            return allowed ? 0 : STATE;
        }

        static boolean isIn(int set, int w) {
            return (set >> w & 1) != 0;
        }

        int digitsOf(int n) {
            int digits = 0;
            for (int i = 0; i < n; i++) {
                digits |= order[i] << 3 * i;
            }
            return digits;
        }

        /** How all stands when the order is through, the doctor being called ahead of those places of it. */
        Stand runCalled(int places) {
            Stand s = stands[0];
            s.beginFrom(town.now);
            for (int i = 0; i < length; i++) {
                if (isIn(places, i)) {
                    s.minute = town.after(s.minute, town.laws[LONG]);
                }
                town.carryOut(s, order[i]);
            }
            return s;
        }

        /** Sets above and below to the mean worth of the order, or to the odds that none is late. */
        void average(boolean odds) {
            above = 0;
            below = 1L << 3 * length;
            for (int places = 0; places < 1 << length; places++) {
                long weight = weightOf(places);
                if (weight != 0) {
                    Stand s = runCalled(places);
                    int counts = s.late == 0 ? 1 : 0;
                    above += weight * (odds ? counts : s.gained);
                }
            }
            // what is below the line is a power of 2, at most 8 by itself six times
            for (int i = 0; i < MOST_HALVINGS && below > 1 && above % 2 == 0; i++) {
                above /= 2;
                below /= 2;
            }
        }

        long weightOf(int places) {
            long weight = 1;
            for (int i = 0; i < length; i++) {
                weight *= isIn(places, i) ? town.laws[CALL] : 8 - town.laws[CALL];
            }
            return weight;
        }

        /** Looks at every order that is allowed, by numbers. */
        void search() {
            found = false;
            stands[0].beginFrom(town.now);
            searchFrom(0);
        }

        private void searchFrom(int depth) {
            Stand s = stands[depth];
            int free = town.freeOnes(s);
            if (free == 0 || depth >= WORKS) {
                compare(s, depth);
                return;
            }
            for (int w = 0; w < town.works; w++) {
                if (isIn(free, w)) {
                    order[depth] = w;
                    stands[depth + 1].take(s);
                    town.carryOut(stands[depth + 1], w);
                    searchFrom(depth + 1);
                }
            }
        }

        void compare(Stand s, int n) {
            if (!found || s.gained > bestWorth) {
                bestWorth = s.gained;
                bestDigits = digitsOf(n);
            }
            fewestLate = found ? Math.min(fewestLate, s.late) : s.late;
            leastMinute = found ? Math.min(leastMinute, s.minute) : s.minute;
            found = true;
        }

        int endByTheBell(int work) {
            for (int w = 0; w < town.works; w++) {
                left[w] = town.minutesOf(town.now, w);
            }
            Stand s = stands[0];
            s.beginFrom(town.now);
            // each round ends a work or uses a minute of some 1,200 at most
            for (int round = 0; round < MOST_ROUNDS; round++) {
                for (int w = 0; w < town.works; w++) {
                    if (town.isFree(s, w)) {
                        ringFor(s, w);
                    }
                }
                if (s.state[work] != OPEN) {
                    return s.end[work];
                }
            }
            return s.minute;
        }

        void ringFor(Stand s, int w) {
            int n = Math.min(town.laws[BELL], left[w]);
            s.minute = town.after(s.minute, n);
            left[w] -= n;
            if (left[w] == 0) {
                s.state[w] = DONE;
                s.end[w] = s.minute;
            }
        }

        /** Which work a rule takes as all stands, or NONE. */
        int choice(Stand s, int rule) {
            int free = town.freeOnes(s);
            int a = town.ruleA[rule];
            switch (town.ruleKind[rule]) {
                case TURN: return firstFrom(free, a);
                case SOON: return soonest(s, free);
                case WORTHY: return worthiest(s, free);
                case KIND: return firstFrom(greatestKind(free), a);
                case TOLD: return atPlace(free, a);
                default: return NONE;
            }
        }

        int firstFrom(int set, int a) {
            int n = town.works;
            for (int i = 0; i < n; i++) {
                int w = (a + i) % n;
                if (isIn(set, w)) {
                    return w;
                }
            }
            return NONE;
        }

        int soonest(Stand s, int set) {
            int chosen = NONE;
            int least = 0;
            for (int w = 0; w < town.works; w++) {
                if (isIn(set, w)) {
                    int minutes = town.minutesOf(s, w);
                    if (chosen < 0 || minutes < least) {
                        chosen = w;
                        least = minutes;
                    }
                }
            }
            return chosen;
        }

        int worthiest(Stand s, int set) {
            int chosen = NONE;
            int worth = 0;
            int by = 1;
            for (int w = 0; w < town.works; w++) {
                if (isIn(set, w)) {
                    int itsWorth = town.list[w].worth;
                    int itsBy = Math.max(1, town.minutesOf(s, w));
                    if (chosen < 0 || itsWorth * by > worth * itsBy) {
                        chosen = w;
                        worth = itsWorth;
                        by = itsBy;
                    }
                }
            }
            return chosen;
        }

        int greatestKind(int set) {
            int greatest = -1;
            int chosen = 0;
            for (int w = 0; w < town.works; w++) {
                if (isIn(set, w) && town.list[w].kind >= greatest) {
                    chosen = town.list[w].kind > greatest ? 0 : chosen;
                    greatest = town.list[w].kind;
                    chosen |= 1 << w;
                }
            }
            return chosen;
        }

        int atPlace(int set, int a) {
            int n = Integer.bitCount(set);
            if (n < 1) {
                return NONE;
            }
            int ahead = a % n;
            for (int w = 0; w < town.works; w++) {
                if (isIn(set, w)) {
                    if (ahead == 0) {
                        return w;
                    }
                    ahead--;
                }
            }
            return NONE;
        }

        int digitsByRule(int rule) {
            Stand s = stands[0];
            s.beginFrom(town.now);
            int n = 0;
            for (int i = 0; i < town.works; i++) {
                int w = choice(s, rule);
                if (w >= 0) {
                    town.carryOut(s, w);
                    order[n] = w;
                    n++;
                }
            }
            return digitsOf(n);
        }

        /** Writes the best order that search() found, a row for each work: how many. */
        int writeBestRows(int[] rows) {
            int n = town.openOnes(town.now);
            Stand s = stands[0];
            s.beginFrom(town.now);
            for (int i = 0; i < n; i++) {
                int w = bestDigits >> 3 * i & 7;
                int worth = town.carryOut(s, w);
                rows[i * ROW_CELLS] = w;
                rows[i * ROW_CELLS + 1] = s.minute;
                rows[i * ROW_CELLS + 2] = worth;
            }
            return n;
        }

        /** 0, or the first row that isn't right and 1 more, or WORKS_LEFT. */
        int firstWrongRow(int[] rows, int n) {
            Stand s = stands[0];
            s.beginFrom(town.now);
            for (int i = 0; i < n; i++) {
                int w = rows[i * ROW_CELLS];
                if (!town.isFree(s, w)) {
                    return i + 1;
                }
                int worth = town.carryOut(s, w);
                if (rows[i * ROW_CELLS + 1] != s.minute || rows[i * ROW_CELLS + 2] != worth) {
                    return i + 1;
                }
            }
            return town.openOnes(s) > 0 ? WORKS_LEFT : 0;
        }
    }

    /** The bytes that were fed, and the reading of them as a town. */
    private static final class Tape {
        private static final int MOST_BYTES = 240;
        private static final int END = 0;
        private static final int NAME = 1;
        private static final int NUMBER = 2;
        private static final int OTHER = 3;
        private static final int MOST_DIGITS = 3;

        final byte[] bytes = new byte[MOST_BYTES];
        int length = 0;
        int sort = END;
        int from = 0;
        int to = 0;
        int fault = -1;

        boolean append(long eight, int n) {
            if (length + n > MOST_BYTES) {
                return false;
            }
            for (int i = 0; i < n; i++) {
                bytes[length + i] = (byte) (eight >> 8 * i);
            }
            length += n;
            return true;
        }

        /** Reads all of it into a town that is clear: the fault's place, or -1. */
        int readInto(Town town) {
            fault = -1;
            to = 0;
            advance();
            // each sentence takes a byte at least
            for (int i = 0; i < MOST_BYTES && sort != END && fault < 0; i++) {
                readSentence(town);
            }
            return fault;
        }

        void advance() {
            from = to;
            while (from < length && bytes[from] == ' ') {
                from++;
            }
            sort = from < length ? sortOf(bytes[from]) : END;
            to = from < length ? from + 1 : from;
            if (sort == NAME || sort == NUMBER) {
                while (to < length && sortOf(bytes[to]) == sort) {
                    to++;
                }
            }
        }

        static int sortOf(byte b) {
            if (b >= 'a' && b <= 'z') {
                return NAME;
            }
            return b >= '0' && b <= '9' ? NUMBER : OTHER;
        }

        boolean isWord(String word) {
            if (sort == END || to - from != word.length()) {
                return false;
            }
            for (int i = 0; i < word.length(); i++) {
                if (bytes[from + i] != word.charAt(i)) {
                    return false;
                }
            }
            return true;
        }

        void fail() {
            if (fault < 0) {
                fault = from;
            }
        }

        void readWord(String word) {
            if (fault < 0 && isWord(word)) {
                advance();
            } else {
                fail();
            }
        }

        int readNumber(int least, int most) {
            int v = 0;
            if (fault >= 0 || sort != NUMBER || to - from > MOST_DIGITS) {
                fail();
                return least;
            }
            for (int i = from; i < to; i++) {
                v = v * 10 + bytes[i] - '0';
            }
            if (v < least || v > most) {
                fail();
                return least;
            }
            advance();
            return v;
        }

        void readSentence(Town town) {
            int kind = kindTold();
            if (kind >= 0) {
                readWork(town, kind);
            } else if (isWord("mover")) {
                readMover(town);
            } else if (isWord("thing")) {
                readThing(town);
            } else if (isWord("water")) {
                advance();
                readLaw(town, WATER);
            } else if (isWord("call")) {
                advance();
                readLaw(town, CALL);
                readLaw(town, LONG);
            } else if (isWord("bell")) {
                advance();
                readLaw(town, BELL);
            } else {
                fail();
            }
            readWord(";");
        }

        int kindTold() {
            if (isWord("work")) {
                return PLAIN;
            }
            if (isWord("heavy")) {
                return HEAVY;
            }
            if (isWord("cart")) {
                return CART;
            }
            if (isWord("slow")) {
                return SLOW;
            }
            if (isWord("quick")) {
                return QUICK;
            }
            return isWord("own") ? OWN : -1;
        }

        void readLaw(Town town, int law) {
            int v = readNumber(LAW_LEAST[law], LAW_MOST[law]);
            if (fault < 0) {
                town.laws[law] = v;
            }
        }

        void readMover(Town town) {
            if (town.movers >= MOVERS) {
                fail();
                return;
            }
            advance();
            int place = readNumber(0, LAST_PLACE);
            int pace = readNumber(1, MOST_PACE);
            if (fault < 0) {
                town.addMover(place, pace);
            }
        }

        void readThing(Town town) {
            if (town.things >= THINGS) {
                fail();
                return;
            }
            advance();
            int place = readNumber(0, LAST_PLACE);
            int weight = readNumber(1, MOST_WEIGHT);
            if (fault < 0) {
                town.addThing(place, weight);
            }
        }

        void readWork(Town town, int kind) {
            if (town.works >= WORKS) {
                fail();
                return;
            }
            advance();
            int mover = readNumber(0, town.movers - 1);
            int thing = readNumber(0, town.things - 1);
            readWord("to");
            int place = readNumber(0, LAST_PLACE);
            readWord("by");
            int due = readNumber(0, MOST_DUE);
            readWord("for");
            int worth = readNumber(0, MOST_WORTH);
            if (fault >= 0) {
                return;
            }
            int number = town.addWork(kind, mover, thing, place, due, worth);
            if (isWord("behind")) {
                advance();
                town.list[number].behind = readNumber(0, number - 1);
                if (fault < 0 && isWord("within")) {
                    advance();
                    town.list[number].within = readNumber(1, MOST_WITHIN);
                }
            }
        }
    }

    /** Runs the acts of a rule; a level is the kind whose body is asked for, its own or one above. */
    private static final class Actor {
        private static final int MOST_BODIES = 30;
        private static final int LAST_ACT = 3;

        final int[] bodies = new int[MOST_BODIES];
        int length = 0;
        private boolean broken = false;
        private int n = 0;
        private int kind = 0;
        private int a = 0;

        static boolean isOrUnder(int kind, int other) {
            return kind == other || other == 0
                || kind == WORTHY && other == SOON
                || kind == KIND && other == TURN;
        }

        int perform(int number, int itsKind, int itsA, int act, int x) {
            broken = false;
            n = number;
            kind = itsKind;
            a = itsA;
            int v = bodyOf(act, x);
            return broken ? PARTED_BY_0 : v;
        }

        private int bodyOf(int act, int x) {
            switch (act) {
                case 0: return movesAs(kind, x);
                case 1: return callsAs(kind, x);
                case 2: return sharesAs(kind, x);
                default: return tellsAs(kind, x);
            }
        }

        /** Once parted by 0 no further body begins, so none is noted any more. */
        private void begin(int body) {
            if (!broken && length < MOST_BODIES) {
                bodies[length] = body;
                length++;
            }
        }

        private int movesAs(int level, int x) {
            switch (level) {
                case SOON:
                    begin(30);
                    return movesAs(0, x) * 3;
                case WORTHY:
                    begin(40);
                    return 0 - movesAs(SOON, x);
                case KIND:
                    begin(51);
                    return movesAs(0, x) - n;
                default:
                    begin(10);
                    return x + n;
            }
        }

        private int callsAs(int level, int x) {
            switch (level) {
                case TURN:
                case KIND:
                    begin(20);
                    return callsAs(0, x) - a;
                case WORTHY:
                    begin(41);
                    return callsAs(0, x) + movesAs(kind, n);
                default:
                    begin(11);
                    return movesAs(kind, x) * 2;
            }
        }

        private int sharesAs(int level, int x) {
            switch (level) {
                case KIND:
                    begin(50);
                    return sharesAs(0, x + 2) ^ 1;
                case TOLD:
                    begin(61);
                    return sharesAs(0, x) + movesAs(kind, a);
                default:
                    begin(12);
                    return part(x, a - n);
            }
        }

        private int part(int x, int by) {
            if (by == 0) {
                broken = true;
                return 0;
            }
            return x / by;
        }

        private int tellsAs(int level, int x) {
            switch (level) {
                case SOON:
                case WORTHY:
                    begin(31);
                    return tellsAs(0, x) + sharesAs(kind, n);
                case TOLD:
                    begin(60);
                    return tellsAs(0, x) * 2;
                default:
                    begin(13);
                    return callsAs(kind, x) ^ a;
            }
        }
    }

    /** Sheets, and shelves that hold a rule's number or what a sheet's row was when it was laid there. */
    private static final class Host {
        private static final int NUMBERS = 4;
        private static final int MOST_ITEMS = 40;
        private static final int MISSING = -1;
        private static final int BYTES = 0;
        private static final int SHORTS = 1;
        private static final int INTS = 2;
        private static final int LAST_SORT = 3;
        private static final int A_RULE = 0;
        private static final int A_ROW = 1;
        private static final int EMPTY = 2;
        private static final int ROW_BASE = 10;

        final int[] sorts = {MISSING, MISSING, MISSING, MISSING};
        final int[] lengths = new int[NUMBERS];
        final long[][] items = new long[NUMBERS][MOST_ITEMS];
        final int[] shelfHolds = {EMPTY, EMPTY, EMPTY, EMPTY};
        final int[] shelfNumbers = new int[NUMBERS];
        final int[] shelfLengths = new int[NUMBERS];

        static boolean isNumber(int k) {
            return k >= 0 && k < NUMBERS;
        }

        static long narrowed(int sort, int v) {
            switch (sort) {
                case BYTES: return (byte) v;
                case SHORTS: return (short) v;
                default: return v;
            }
        }

        int refusalOf(int sheet, int sort) {
            if (!isNumber(sheet)) {
                return BAD;
            }
            if (sorts[sheet] == MISSING) {
                return NOTHING_THERE;
            }
            return sorts[sheet] == sort ? 0 : OTHER_SORT;
        }

        void makeRow(int sheet, int sort, int n) {
            sorts[sheet] = sort;
            lengths[sheet] = n;
            for (int i = 0; i < MOST_ITEMS; i++) {
                items[sheet][i] = 0;
            }
        }

        /** A row on a shelf stays what it is when its sheet becomes another one: its sort and length do. */
        void layOn(int shelf, int what, int n) {
            boolean row = what == A_ROW;
            boolean missing = row && sorts[n] == MISSING;
            shelfHolds[shelf] = missing ? EMPTY : what;
            shelfNumbers[shelf] = row ? sorts[n] : n;
            shelfLengths[shelf] = row ? lengths[n] : 0;
        }
    }
}
