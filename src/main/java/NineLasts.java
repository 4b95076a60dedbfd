import java.util.Arrays;

/** Feet of valleys, the lasts that shoe them, and which few lasts to choose. */
public final class NineLasts {
    public static final int NONE = -1;

    private static final int BAD = -2;
    private static final int OTHER = -3;
    private static final int NOTHING = -4;
    private static final int STUCK = -5;
    private static final int FULL = -6;
    private static final int FINE = 0;

    private static final int MAX_VALLEYS = 4;
    private static final int MAX_FEET = 12;
    private static final int MAX_LASTS = 10;
    private static final int MAX_SETS = 1 << MAX_LASTS;
    private static final int MAX_SHELVES = 8;
    private static final int MAX_ELEMENTS = 40;
    private static final int MAX_TAPE = 250;
    private static final int MAX_SIZES = 6;
    private static final int MAX_STEPS = 999;

    private static final int MEASURES = 3;
    private static final int L = 0;
    private static final int B = 1;
    private static final int H = 2;
    private static final int TIMES = 3;
    private static final int GIVE = 4;
    private static final int FOOT_PARTS = 5;
    private static final int PRICE = 3;
    private static final int LAST_PARTS = 4;

    private static final int FOOT_MOST = 30;
    private static final int LAST_MOST = 40;
    private static final int NUMBER_MOST = 99;
    private static final int DIGIT_MOST = 9;
    private static final int OVER_MOST = 30;

    private static final int BYTES = 0;
    private static final int SHORTS = 1;
    private static final int INTS = 2;
    private static final int LONGS = 3;
    private static final int BOOLEANS = 4;

    private static final int TOOL = 0;
    private static final int MADE = 1;
    private static final int BUILT = 2;
    private static final int OWN = 3;
    private static final int PAIR = 4;
    private static final int GROWN = 5;
    private static final int TOOL_BASE = 10;
    private static final int TOOL_MOST = 30;

    private static final int NEVER = 0x7fffffff;

    private final Tape tape = new Tape();
    private final Reader reader = new Reader(tape);
    private final Shelf[] shelves = new Shelf[MAX_SHELVES];
    private final World world = new World();
    private final World kept = new World();
    private boolean isKept = false;
    private final int[] refusals = new int[5];
    private final SetTable table = new SetTable();
    private final SizeLine sizeLine = new SizeLine();
    private final CornerSeeker seeker = new CornerSeeker();

    public NineLasts() {
        for (int s = 0; s < MAX_SHELVES; s++) {
            shelves[s] = new Shelf();
        }
    }

    // ---- shelves

    public int row(int s, int sort, int n) {
        if (!isShelf(s) || !isWithin(sort, BYTES, BOOLEANS) || !isWithin(n, 0, MAX_ELEMENTS)) {
            return refuse(BAD);
        }
        shelves[s].becomeRow(sort, n);
        return 1;
    }

    public int set(int s, int i, long v) {
        if (!isShelf(s)) {
            return refuse(BAD);
        }
        Shelf shelf = shelves[s];
        if (shelf.rowRefusal() != FINE) {
            return refuse(shelf.rowRefusal());
        }
        if (!isWithin(i, 0, shelf.size - 1)) {
            return refuse(BAD);
        }
        shelf.put(i, v);
        return 1;
    }

    public int copy(int p, int q, int i, int j, int n) {
        if (!isShelf(p) || !isShelf(q)) {
            return refuse(BAD);
        }
        Shelf from = shelves[p];
        Shelf to = shelves[q];
        int refusal = pairRefusal(from, to);
        if (refusal != FINE) {
            return refuse(refusal);
        }
        if (!from.hasSpan(i, n) || !to.hasSpan(j, n)) {
            return refuse(BAD);
        }
        System.arraycopy(from.elements, i, to.elements, j, n);
        return n;
    }

    public long element(int s, int i) {
        if (!isShelf(s)) {
            return 0;
        }
        return shelves[s].elementOrZero(i);
    }

    public int holds(int s) {
        return isShelf(s) ? shelves[s].content : NONE;
    }

    public int tool(int s, int kind, int last, int a) {
        if (!isShelf(s) || !isWithin(kind, MADE, GROWN)
                || !isWithin(last, 0, MAX_LASTS - 1) || !isWithin(a, 0, TOOL_MOST)) {
            return refuse(BAD);
        }
        shelves[s].becomeTool(kind, last, a);
        return 1;
    }

    public int says(int s, int kind) {
        if (!isShelf(s) || !isWithin(kind, TOOL, GROWN)) {
            return refuse(BAD);
        }
        Shelf shelf = shelves[s];
        if (shelf.isRow() || (shelf.isTool() && !shelf.isOfKind(kind))) {
            return refuse(OTHER);
        }
        if (shelf.isFree()) {
            return refuse(NOTHING);
        }
        return shelf.saysAs(kind);
    }

    public int tries(int valley, int foot, int s) {
        if (!isFoot(valley, foot) || !isShelf(s)) {
            return refuse(BAD);
        }
        Valley v = world.valleys[valley];
        int refusal = shelves[s].toolRefusal(v);
        if (refusal != FINE) {
            return refuse(refusal);
        }
        return shelves[s].badnessFor(v, foot);
    }

    public int shoes(int valley, int s) {
        if (!isValley(valley) || !isShelf(s)) {
            return refuse(BAD);
        }
        Valley v = world.valleys[valley];
        int refusal = shelves[s].toolRefusal(v);
        if (refusal != FINE) {
            return refuse(refusal);
        }
        int shod = 0;
        for (int foot = 0; foot < v.footCount; foot++) {
            if (shelves[s].badnessFor(v, foot) != NONE) {
                shod |= 1 << foot;
            }
        }
        return shod;
    }

    // ---- the tape and the valleys told by it

    public int feed(int v, int n) {
        if (!isWithin(n, 1, 4)) {
            return refuse(BAD);
        }
        if (tape.size + n > MAX_TAPE) {
            return refuse(FULL);
        }
        for (int i = n - 1; i >= 0; i--) {
            tape.add((v >>> (8 * i)) & 255);
        }
        return tape.size;
    }

    public int wipe() {
        int size = tape.size;
        tape.size = 0;
        return size;
    }

    public int valley() {
        if (world.valleyCount >= MAX_VALLEYS) {
            return refuse(FULL);
        }
        int number = world.valleyCount;
        int fault = reader.readInto(world.valleys[number]);
        tape.size = 0;
        if (fault != NONE) {
            refuse(BAD);
            return -20 - fault;
        }
        world.valleyCount++;
        return number;
    }

    public int valleyOf(int valley, int what) {
        if (!isValley(valley) || !isWithin(what, 0, 10)) {
            return refuse(BAD);
        }
        Valley v = world.valleys[valley];
        switch (what) {
            case 0: return v.footCount;
            case 1: return v.lastCount;
            case 2: return v.allTimes();
            case 3: return v.outCost;
            case 4: return v.growth;
            default: return what < 8 ? v.waste[what - 5] : v.over[what - 8];
        }
    }

    public int footOf(int valley, int foot, int what) {
        if (!isFoot(valley, foot) || !isWithin(what, L, GIVE)) {
            return refuse(BAD);
        }
        return world.valleys[valley].footPart(foot, what);
    }

    public int lastOf(int valley, int last, int what) {
        if (!isLast(valley, last) || !isWithin(what, L, PRICE)) {
            return refuse(BAD);
        }
        return world.valleys[valley].lastPart(last, what);
    }

    public int feet(int valley, int s) {
        if (!isValley(valley) || !isShelf(s)) {
            return refuse(BAD);
        }
        Shelf shelf = shelves[s];
        if (shelf.rowRefusal() != FINE) {
            return refuse(shelf.rowRefusal());
        }
        Valley v = world.valleys[valley];
        int came = 0;
        for (int i = 0; i + 3 < shelf.size; i += 4) {
            if (v.footCount >= MAX_FEET || !shelf.hasFootAt(i)) {
                break;
            }
            v.addFoot((int) shelf.elements[i], (int) shelf.elements[i + 1], (int) shelf.elements[i + 2]);
            v.putFootPart(v.footCount - 1, TIMES, (int) shelf.elements[i + 3]);
            came++;
        }
        return came;
    }

    public int alter(int valley, int foot, int what, int v) {
        if (!isFoot(valley, foot) || !isWithin(what, 0, 1)) {
            return refuse(BAD);
        }
        boolean canBe = what == 0 ? isWithin(v, 1, NUMBER_MOST) : isWithin(v, 0, DIGIT_MOST);
        if (!canBe) {
            return refuse(BAD);
        }
        Valley its = world.valleys[valley];
        int part = what == 0 ? TIMES : GIVE;
        int was = its.footPart(foot, part);
        its.putFootPart(foot, part, v);
        return was;
    }

    public int carve(int valley, int last, int what, int v) {
        if (!isLast(valley, last) || !isWithin(what, L, PRICE)
                || !isWithin(v, 0, what == PRICE ? NUMBER_MOST : LAST_MOST)) {
            return refuse(BAD);
        }
        Valley its = world.valleys[valley];
        int was = its.lastPart(last, what);
        its.putLastPart(last, what, v);
        return was;
    }

    public int build(int valley, int last, int a) {
        if (!isLast(valley, last) || !isWithin(a, 1, DIGIT_MOST)) {
            return refuse(BAD);
        }
        Valley v = world.valleys[valley];
        int l = v.lastPart(last, L) + a;
        int b = v.lastPart(last, B) + a;
        int h = v.lastPart(last, H) + a;
        if (l > LAST_MOST || b > LAST_MOST || h > LAST_MOST) {
            return refuse(STUCK);
        }
        if (v.lastCount >= MAX_LASTS) {
            return refuse(FULL);
        }
        v.addLast(l, b, h);
        v.putLastPart(v.lastCount - 1, PRICE, Math.min(NUMBER_MOST, v.lastPart(last, PRICE) + a));
        return v.lastCount - 1;
    }

    public int year(int valley) {
        if (!isValley(valley)) {
            return refuse(BAD);
        }
        Valley v = world.valleys[valley];
        int grew = 0;
        for (int foot = 0; foot < v.footCount; foot++) {
            int more = v.growthIn(foot, 1);
            if (more > 0) {
                v.putFootPart(foot, L, v.footPart(foot, L) + more);
                grew++;
            }
        }
        return grew;
    }

    // ---- whom a choice of lasts shoes

    public int does(int valley, int last, int foot) {
        if (!isLast(valley, last) || !isFoot(valley, foot)) {
            return refuse(BAD);
        }
        return world.valleys[valley].badnessOf(last, foot) != NONE ? 1 : 0;
    }

    public int bad(int valley, int last, int foot) {
        if (!isLast(valley, last) || !isFoot(valley, foot)) {
            return refuse(BAD);
        }
        return world.valleys[valley].badnessOf(last, foot);
    }

    public int whose(int valley, int foot, int set) {
        if (!isFoot(valley, foot) || !isSet(valley, set)) {
            return refuse(BAD);
        }
        return world.valleys[valley].ownLast(foot, set);
    }

    public int total(int valley, int set) {
        if (!isSet(valley, set)) {
            return refuse(BAD);
        }
        Valley v = world.valleys[valley];
        int sum = v.prices(set);
        for (int foot = 0; foot < v.footCount; foot++) {
            sum += v.costAt(foot, v.ownBadness(foot, v, set));
        }
        return sum;
    }

    public int out(int valley, int set) {
        if (!isSet(valley, set)) {
            return refuse(BAD);
        }
        Valley v = world.valleys[valley];
        int without = 0;
        for (int foot = 0; foot < v.footCount; foot++) {
            if (v.ownLast(foot, set) == NONE) {
                without |= 1 << foot;
            }
        }
        return without;
    }

    public int judge(int valley, int set, int s) {
        if (!isSet(valley, set) || !isShelf(s)) {
            return refuse(BAD);
        }
        Shelf shelf = shelves[s];
        if (shelf.rowRefusal() != FINE) {
            return refuse(shelf.rowRefusal());
        }
        Valley v = world.valleys[valley];
        for (int foot = 0; foot < v.footCount; foot++) {
            if (shelf.toldLast(foot, v.lastCount) != v.ownLast(foot, set)) {
                return foot;
            }
        }
        return NONE;
    }

    // ---- choices

    public int best(int valley, int n) {
        if (!isValley(valley) || !isCount(n)) {
            return refuse(BAD);
        }
        table.fillFor(world.valleys[valley]);
        return table.leastTotal(n);
    }

    public int more(int valley, int n) {
        if (!isValley(valley) || !isWithin(n, 0, MAX_LASTS - 1)) {
            return refuse(BAD);
        }
        table.fillFor(world.valleys[valley]);
        return table.totals[table.leastTotal(n)] - table.totals[table.leastTotal(n + 1)];
    }

    public int enough(int valley, int v) {
        if (!isValley(valley) || v < 0) {
            return refuse(BAD);
        }
        table.fillFor(world.valleys[valley]);
        for (int n = 0; n <= MAX_LASTS; n++) {
            if (table.totals[table.leastTotal(n)] <= v) {
                return n;
            }
        }
        return NONE;
    }

    public int changed(int valley, int set) {
        if (!isSet(valley, set)) {
            return refuse(BAD);
        }
        table.fillFor(world.valleys[valley]);
        return table.changedFrom(set);
    }

    public int bound(int valley) {
        if (!isValley(valley)) {
            return refuse(BAD);
        }
        Valley v = world.valleys[valley];
        int sum = 0;
        for (int foot = 0; foot < v.footCount; foot++) {
            int least = v.ownBadness(foot, v, v.allLasts());
            sum += v.footPart(foot, TIMES) * Math.min(v.outCost, least);
        }
        return sum;
    }

    public int fair(int valley, int n) {
        if (!isValley(valley) || !isCount(n)) {
            return refuse(BAD);
        }
        table.fillFor(world.valleys[valley]);
        return table.fairest(n);
    }

    public int shod(int valley, int n) {
        if (!isValley(valley) || !isCount(n)) {
            return refuse(BAD);
        }
        table.fillFor(world.valleys[valley]);
        return table.mostShod(n);
    }

    public int line(int valley, int measure, int n, int what) {
        if (!isValley(valley) || !isWithin(measure, L, H) || !isWithin(n, 1, MAX_SIZES)) {
            return refuse(BAD);
        }
        Valley v = world.valleys[valley];
        boolean canBe = what == 0 || what == 1 || isWithin(what, 10, 9 + MAX_SIZES);
        if (v.footCount == 0 || !canBe) {
            return refuse(BAD);
        }
        sizeLine.solve(v, measure, n);
        if (what == 0) {
            return sizeLine.sum;
        }
        if (what == 1) {
            return sizeLine.used;
        }
        return what - 10 < sizeLine.used ? sizeLine.chosen[what - 10] : refuse(BAD);
    }

    public int corners(int valley) {
        if (!isValley(valley)) {
            return refuse(BAD);
        }
        return seeker.countIn(world.valleys[valley]);
    }

    public int corner(int valley, int what) {
        if (!isValley(valley) || !isWithin(what, 0, 4) || world.valleys[valley].footCount == 0) {
            return refuse(BAD);
        }
        seeker.seekIn(world.valleys[valley]);
        switch (what) {
            case 0: return seeker.number;
            case 1: return seeker.least;
            default: return seeker.found[what - 2];
        }
    }

    public int keeps(int valley, int foot, int n) {
        if (!isFoot(valley, foot) || !isWithin(n, 1, 9)) {
            return refuse(BAD);
        }
        Valley v = world.valleys[valley];
        int lasting = 0;
        for (int last = 0; last < v.lastCount; last++) {
            if (v.doesForYears(last, foot, n)) {
                lasting |= 1 << last;
            }
        }
        return lasting;
    }

    public int lend(int valley, int other, int set, int otherSet) {
        if (!isSet(valley, set) || !isSet(other, otherSet) || valley == other) {
            return refuse(BAD);
        }
        Valley one = world.valleys[valley];
        Valley two = world.valleys[other];
        return one.prices(set) + two.prices(otherSet)
                + lentCosts(one, set, two, otherSet) + lentCosts(two, otherSet, one, set);
    }

    public int doubt(int valley, int n) {
        if (!isValley(valley) || !isCount(n)) {
            return refuse(BAD);
        }
        table.fillFor(world.valleys[valley]);
        return table.doubtIn(world.valleys[valley], n);
    }

    public int idle(int valley) {
        if (!isValley(valley)) {
            return refuse(BAD);
        }
        Valley v = world.valleys[valley];
        table.fillFor(v);
        int used = 0;
        for (int n = 0; n <= MAX_LASTS; n++) {
            used |= table.leastTotal(n);
        }
        for (int last = 0; last < v.lastCount; last++) {
            if ((used & (1 << last)) == 0) {
                return last;
            }
        }
        return NONE;
    }

    // ---- a going-through

    public int begin(int valley, int n) {
        if (!isValley(valley) || !isCount(n)) {
            return refuse(BAD);
        }
        world.going.start(world.valleys[valley], valley, n);
        return world.going.sets();
    }

    public int step(int k) {
        if (!isWithin(k, 1, MAX_STEPS)) {
            return refuse(BAD);
        }
        if (!world.going.isUnderWay || world.going.isDone()) {
            return refuse(STUCK);
        }
        table.fillFor(world.going.snapshot);
        world.going.lookAt(table, k);
        return world.going.leastSoFar;
    }

    public int search(int what) {
        if (!isWithin(what, 0, 4)) {
            return refuse(BAD);
        }
        GoingThrough going = world.going;
        if (!going.isUnderWay) {
            return refuse(STUCK);
        }
        switch (what) {
            case 0: return going.number;
            case 1: return going.most;
            case 2: return going.next;
            case 3: return going.bestSoFar;
            default: return going.isDone() ? 1 : 0;
        }
    }

    // ---- keeping, and how things stand

    public int image() {
        kept.takeFrom(world);
        isKept = true;
        return 1;
    }

    public int back() {
        if (!isKept) {
            return refuse(STUCK);
        }
        world.takeFrom(kept);
        return 1;
    }

    public int status(int what) {
        if (isWithin(what, 12, 16)) {
            return refusals[what - 12];
        }
        switch (what) {
            case 0: return world.valleyCount;
            case 1: return tape.size;
            case 2: return shelvesInUse();
            default: return NONE;
        }
    }

    // ---- what the calls share

    private int refuse(int refusal) {
        int place = BAD - refusal;
        if (place >= 0 && place < refusals.length) {
            refusals[place]++;
        }
        return refusal;
    }

    private static boolean isWithin(int number, int least, int most) {
        return number >= least && number <= most;
    }

    private static boolean isShelf(int s) {
        return isWithin(s, 0, MAX_SHELVES - 1);
    }

    private static boolean isCount(int n) {
        return isWithin(n, 0, MAX_LASTS);
    }

    private boolean isValley(int valley) {
        return isWithin(valley, 0, world.valleyCount - 1);
    }

    private boolean isFoot(int valley, int foot) {
        return isValley(valley) && isWithin(foot, 0, world.valleys[valley].footCount - 1);
    }

    private boolean isLast(int valley, int last) {
        return isValley(valley) && isWithin(last, 0, world.valleys[valley].lastCount - 1);
    }

    private boolean isSet(int valley, int set) {
        return isValley(valley) && isWithin(set, 0, world.valleys[valley].allLasts());
    }

    private static int pairRefusal(Shelf from, Shelf to) {
        boolean twoSorts = from.isRow() && to.isRow() && from.content != to.content;
        if (from.isTool() || to.isTool() || twoSorts) {
            return OTHER;
        }
        return from.isFree() || to.isFree() ? NOTHING : FINE;
    }

    private int shelvesInUse() {
        int used = 0;
        for (int s = 0; s < MAX_SHELVES; s++) {
            if (!shelves[s].isFree()) {
                used++;
            }
        }
        return used;
    }

    private static int lentCosts(Valley home, int set, Valley lender, int lentSet) {
        int sum = 0;
        for (int foot = 0; foot < home.footCount; foot++) {
            int own = home.ownBadness(foot, home, set);
            int lent = home.ownBadness(foot, lender, lentSet);
            sum += home.costAt(foot, Math.min(own, lent));
        }
        return sum;
    }

    /** What image() keeps and back() brings again. */
    private static final class World {
        final Valley[] valleys = new Valley[MAX_VALLEYS];
        final GoingThrough going = new GoingThrough();
        int valleyCount = 0;

        World() {
            for (int i = 0; i < MAX_VALLEYS; i++) {
                valleys[i] = new Valley();
            }
        }

        void takeFrom(World other) {
            valleyCount = other.valleyCount;
            for (int i = 0; i < valleyCount; i++) {
                valleys[i].takeFrom(other.valleys[i]);
            }
            going.takeFrom(other.going);
        }
    }

    private static final class Valley {
        private final int[] footParts = new int[MAX_FEET * FOOT_PARTS];
        private final int[] lastParts = new int[MAX_LASTS * LAST_PARTS];
        final int[] waste = new int[MEASURES];
        final int[] over = new int[MEASURES];
        int footCount = 0;
        int lastCount = 0;
        int outCost = 50;
        int growth = 1;

        void becomeEmpty() {
            footCount = 0;
            lastCount = 0;
            outCost = 50;
            growth = 1;
            Arrays.fill(waste, 1);
            Arrays.fill(over, 9);
        }

        void takeFrom(Valley other) {
            footCount = other.footCount;
            lastCount = other.lastCount;
            outCost = other.outCost;
            growth = other.growth;
            System.arraycopy(other.footParts, 0, footParts, 0, footCount * FOOT_PARTS);
            System.arraycopy(other.lastParts, 0, lastParts, 0, lastCount * LAST_PARTS);
            System.arraycopy(other.waste, 0, waste, 0, MEASURES);
            System.arraycopy(other.over, 0, over, 0, MEASURES);
        }

        int footPart(int foot, int part) {
            return footParts[foot * FOOT_PARTS + part];
        }

        void putFootPart(int foot, int part, int v) {
            footParts[foot * FOOT_PARTS + part] = v;
        }

        int lastPart(int last, int part) {
            return lastParts[last * LAST_PARTS + part];
        }

        void putLastPart(int last, int part, int v) {
            lastParts[last * LAST_PARTS + part] = v;
        }

        void addFoot(int l, int b, int h) {
            int foot = footCount;
            footCount++;
            putFootPart(foot, L, l);
            putFootPart(foot, B, b);
            putFootPart(foot, H, h);
            putFootPart(foot, TIMES, 1);
            putFootPart(foot, GIVE, 0);
        }

        void addLast(int l, int b, int h) {
            int last = lastCount;
            lastCount++;
            putLastPart(last, L, l);
            putLastPart(last, B, b);
            putLastPart(last, H, h);
            putLastPart(last, PRICE, 0);
        }

        int allLasts() {
            return (1 << lastCount) - 1;
        }

        int allTimes() {
            int sum = 0;
            for (int foot = 0; foot < footCount; foot++) {
                sum += footPart(foot, TIMES);
            }
            return sum;
        }

        int prices(int set) {
            int sum = 0;
            for (int last = 0; last < lastCount; last++) {
                if ((set & (1 << last)) != 0) {
                    sum += lastPart(last, PRICE);
                }
            }
            return sum;
        }

        /** The share of one measure in BADNESS, by a foot grown by so much; NONE: the size does not do. */
        int share(int foot, int measure, int grown, int size) {
            int own = footPart(foot, measure) + grown;
            // Too big is said of the foot's own measure: give lets a smaller last do and takes nothing from over.
            if (size < own - footPart(foot, GIVE) || size > own + over[measure]) {
                return NONE;
            }
            return size > own ? waste[measure] * (size - own) : 0;
        }

        /** BADNESS of a last of any valley, thicker by so much, for a foot of this one. */
        int badness(Valley maker, int last, int thicker, int foot, int longer, int broader) {
            int ofL = share(foot, L, longer, maker.lastPart(last, L) + thicker);
            int ofB = share(foot, B, broader, maker.lastPart(last, B) + thicker);
            int ofH = share(foot, H, 0, maker.lastPart(last, H) + thicker);
            return ofL == NONE || ofB == NONE || ofH == NONE ? NONE : ofL + ofB + ofH;
        }

        int badnessOf(int last, int foot) {
            return badness(this, last, 0, foot, 0, 0);
        }

        int ownLast(int foot, int set) {
            int own = NONE;
            int least = NEVER;
            for (int last = 0; last < lastCount; last++) {
                if ((set & (1 << last)) != 0) {
                    int badness = badnessOf(last, foot);
                    if (badness != NONE && badness < least) {
                        own = last;
                        least = badness;
                    }
                }
            }
            return own;
        }

        /** The least BADNESS by a set of some valley's lasts; NEVER: none does. */
        int ownBadness(int foot, Valley maker, int set) {
            int least = NEVER;
            for (int last = 0; last < maker.lastCount; last++) {
                if ((set & (1 << last)) != 0) {
                    int badness = badness(maker, last, 0, foot, 0, 0);
                    if (badness != NONE) {
                        least = Math.min(least, badness);
                    }
                }
            }
            return least;
        }

        int costAt(int foot, int leastBadness) {
            return footPart(foot, TIMES) * (leastBadness == NEVER ? outCost : leastBadness);
        }

        int growthIn(int foot, int years) {
            int now = footPart(foot, L);
            return Math.min(FOOT_MOST, now + growth * years) - now;
        }

        boolean doesForYears(int last, int foot, int years) {
            for (int y = 0; y <= years; y++) {
                if (badness(this, last, 0, foot, growthIn(foot, y), 0) == NONE) {
                    return false;
                }
            }
            return true;
        }

        /** Puts the sizes of a measure that feet have into a row, the least first. */
        int sizesOf(int measure, int[] sizes) {
            int count = 0;
            for (int size = 0; size <= FOOT_MOST && count < sizes.length; size++) {
                if (hasFootOf(measure, size)) {
                    sizes[count] = size;
                    count++;
                }
            }
            return count;
        }

        private boolean hasFootOf(int measure, int size) {
            for (int foot = 0; foot < footCount; foot++) {
                if (footPart(foot, measure) == size) {
                    return true;
                }
            }
            return false;
        }
    }

    private static final class Tape {
        private final int[] bytes = new int[MAX_TAPE];
        int size = 0;

        void add(int b) {
            if (size < MAX_TAPE) {
                bytes[size] = b;
                size++;
            }
        }

        int at(int place) {
            return place >= 0 && place < size ? bytes[place] : NONE;
        }
    }

    /** Reads a valley from the tape, token by token. */
    private static final class Reader {
        private static final int END = 0;
        private static final int WORD = 1;
        private static final int NUMBER = 2;
        private static final int SIGN = 3;
        private static final int UNKNOWN = 4;

        private final Tape tape;
        private int token = END;
        private int start = 0;
        private int end = 0;
        private int fault = NONE;

        Reader(Tape tape) {
            this.tape = tape;
        }

        /** The fault, or NONE. */
        int readInto(Valley v) {
            v.becomeEmpty();
            fault = NONE;
            end = 0;
            next();
            readStatement(v);
            // Every statement takes a byte at least, so the tape's size is bound enough.
            for (int i = 0; i < MAX_TAPE && fault == NONE && token == SIGN; i++) {
                next();
                readStatement(v);
            }
            if (token != END) {
                fail();
            }
            return fault;
        }

        private void next() {
            start = end;
            while (start < tape.size && tape.at(start) == ' ') {
                start++;
            }
            token = kindOf(tape.at(start));
            end = start;
            if (token == WORD || token == NUMBER) {
                while (end < tape.size && kindOf(tape.at(end)) == token) {
                    end++;
                }
            } else if (token != END) {
                end++;
            }
        }

        private static int kindOf(int b) {
            if (b == NONE) {
                return END;
            }
            if (b >= 'a' && b <= 'z') {
                return WORD;
            }
            if (b >= '0' && b <= '9') {
                return NUMBER;
            }
            return b == ';' ? SIGN : UNKNOWN;
        }

        private void fail() {
            if (fault == NONE) {
                fault = start;
            }
        }

        private boolean isWord(String word) {
            if (token != WORD || end - start != word.length()) {
                return false;
            }
            for (int i = 0; i < word.length(); i++) {
                if (tape.at(start + i) != word.charAt(i)) {
                    return false;
                }
            }
            return true;
        }

        /** The number that stands here; once there is a fault, the answer is not used. */
        private int number(int least, int most) {
            if (fault != NONE) {
                return least;
            }
            if (token != NUMBER || end - start > 2) {
                fail();
                return least;
            }
            int value = 0;
            for (int i = start; i < end; i++) {
                value = value * 10 + (tape.at(i) - '0');
            }
            if (value < least || value > most) {
                fail();
                return least;
            }
            next();
            return value;
        }

        private void readStatement(Valley v) {
            if (isWord("foot")) {
                readFoot(v);
            } else if (isWord("last")) {
                readLast(v);
            } else if (isWord("waste")) {
                next();
                readMeasures(v.waste, DIGIT_MOST);
            } else if (isWord("over")) {
                next();
                readMeasures(v.over, OVER_MOST);
            } else if (isWord("out")) {
                next();
                v.outCost = number(0, NUMBER_MOST);
            } else if (isWord("grow")) {
                next();
                v.growth = number(0, DIGIT_MOST);
            } else {
                fail();
            }
        }

        private void readMeasures(int[] into, int most) {
            for (int m = 0; m < MEASURES && m < into.length; m++) {
                into[m] = number(0, most);
            }
        }

        private void readFoot(Valley v) {
            if (v.footCount >= MAX_FEET) {
                fail();
                return;
            }
            next();
            int l = number(0, FOOT_MOST);
            int b = number(0, FOOT_MOST);
            int h = number(0, FOOT_MOST);
            v.addFoot(l, b, h);
            int foot = v.footCount - 1;
            if (fault == NONE && isWord("times")) {
                next();
                v.putFootPart(foot, TIMES, number(1, NUMBER_MOST));
            }
            if (fault == NONE && isWord("give")) {
                next();
                v.putFootPart(foot, GIVE, number(0, DIGIT_MOST));
            }
        }

        private void readLast(Valley v) {
            if (v.lastCount >= MAX_LASTS) {
                fail();
                return;
            }
            next();
            int l = number(0, LAST_MOST);
            int b = number(0, LAST_MOST);
            int h = number(0, LAST_MOST);
            v.addLast(l, b, h);
            if (fault == NONE && isWord("price")) {
                next();
                v.putLastPart(v.lastCount - 1, PRICE, number(0, NUMBER_MOST));
            }
        }
    }

    /** Holds nothing, a row or a tool: the row's elements stay made, so that rows anew cost no room. */
    private static final class Shelf {
        final long[] elements = new long[MAX_ELEMENTS];
        int content = NONE;
        int size = 0;
        private int last = 0;
        private int a = 0;

        void becomeRow(int sort, int n) {
            content = sort;
            size = n;
            Arrays.fill(elements, 0L);
        }

        void becomeTool(int kind, int itsLast, int itsA) {
            content = TOOL_BASE + kind;
            size = 0;
            last = itsLast;
            a = itsA;
        }

        boolean isFree() {
            return content == NONE;
        }

        boolean isRow() {
            return content >= BYTES && content <= BOOLEANS;
        }

        boolean isTool() {
            return content >= TOOL_BASE;
        }

        int rowRefusal() {
            if (isTool()) {
                return OTHER;
            }
            return isFree() ? NOTHING : FINE;
        }

        int toolRefusal(Valley v) {
            if (isRow()) {
                return OTHER;
            }
            if (isFree()) {
                return NOTHING;
            }
            return last < v.lastCount ? FINE : STUCK;
        }

        boolean hasSpan(int from, int n) {
            return from >= 0 && from <= size && n >= 0 && n <= size - from;
        }

        long elementOrZero(int i) {
            return isRow() && i >= 0 && i < size ? elements[i] : 0;
        }

        void put(int i, long v) {
            switch (content) {
                case BYTES: elements[i] = (byte) v; break;
                case SHORTS: elements[i] = (short) v; break;
                case INTS: elements[i] = (int) v; break;
                case LONGS: elements[i] = v; break;
                default: elements[i] = v != 0 ? 1 : 0; break;
            }
        }

        boolean hasFootAt(int i) {
            for (int m = 0; m < MEASURES; m++) {
                if (elements[i + m] < 0 || elements[i + m] > FOOT_MOST) {
                    return false;
                }
            }
            return elements[i + TIMES] >= 1 && elements[i + TIMES] <= NUMBER_MOST;
        }

        /** The last that a row tells for a foot; NONE: it is told to be out. */
        int toldLast(int foot, int lastCount) {
            if (foot >= size || elements[foot] < 0 || elements[foot] >= lastCount) {
                return NONE;
            }
            return (int) elements[foot];
        }

        boolean isOfKind(int wanted) {
            int kind = content - TOOL_BASE;
            boolean isMade = kind == MADE || kind == BUILT || kind == PAIR || kind == GROWN;
            return wanted == TOOL || wanted == kind || (wanted == MADE && isMade);
        }

        int saysAs(int kind) {
            if (kind == TOOL) {
                return last;
            }
            if (kind != MADE) {
                return a;
            }
            switch (content - TOOL_BASE) {
                case BUILT: return 2;
                case PAIR: return 3;
                case GROWN: return 4;
                default: return 1;
            }
        }

        int badnessFor(Valley v, int foot) {
            switch (content - TOOL_BASE) {
                case BUILT: return builtBadness(v, foot);
                case OWN: return foot == a ? 0 : NONE;
                case PAIR: return pairBadness(v, foot);
                case GROWN: return v.badness(v, last, 0, foot, v.growth * a, v.growth * a / 2);
                default: return v.badnessOf(last, foot);
            }
        }

        private int builtBadness(Valley v, int foot) {
            int badness = v.badness(v, last, a, foot, 0, 0);
            return badness == NONE ? NONE : badness + a / 2;
        }

        private int pairBadness(Valley v, int foot) {
            boolean tooLong = v.lastPart(last, L) - v.footPart(foot, L) > 1;
            int badness = v.badnessOf(last, foot);
            if (badness == NONE || (a % 2 != 0 && tooLong)) {
                return NONE;
            }
            return 2 * badness;
        }
    }

    /** How every set of a valley's lasts does: filled anew by each call that asks it, so that it is never stale. */
    private static final class SetTable {
        final int[] totals = new int[MAX_SETS];
        private final int[] missed = new int[MAX_SETS];
        private final int[] worst = new int[MAX_SETS];
        private final int[] least = new int[MAX_SETS];
        private int sets = 1;

        void fillFor(Valley v) {
            sets = 1 << v.lastCount;
            startWithPrices(v);
            for (int foot = 0; foot < v.footCount; foot++) {
                fillLeast(v, foot);
                addFoot(v, foot);
            }
        }

        private void startWithPrices(Valley v) {
            Arrays.fill(missed, 0, sets, 0);
            Arrays.fill(worst, 0, sets, 0);
            totals[0] = 0;
            for (int last = 0; last < v.lastCount; last++) {
                int bit = 1 << last;
                int price = v.lastPart(last, PRICE);
                for (int rest = 0; rest < bit; rest++) {
                    totals[bit + rest] = totals[rest] + price;
                }
            }
        }

        /** The least BADNESS for one foot by every set, each from that without its highest last. */
        private void fillLeast(Valley v, int foot) {
            least[0] = NEVER;
            for (int last = 0; last < v.lastCount; last++) {
                int bit = 1 << last;
                int badness = v.badnessOf(last, foot);
                int its = badness == NONE ? NEVER : badness;
                for (int rest = 0; rest < bit; rest++) {
                    least[bit + rest] = Math.min(least[rest], its);
                }
            }
        }

        private void addFoot(Valley v, int foot) {
            int times = v.footPart(foot, TIMES);
            int costOut = v.costAt(foot, NEVER);
            for (int set = 0; set < sets; set++) {
                int badness = least[set];
                if (badness == NEVER) {
                    totals[set] += costOut;
                    missed[set] += times;
                } else {
                    totals[set] += times * badness;
                    worst[set] = Math.max(worst[set], badness);
                }
            }
        }

        int leastTotal(int n) {
            int found = 0;
            for (int set = 1; set < sets; set++) {
                if (totals[set] < totals[found] && Integer.bitCount(set) <= n) {
                    found = set;
                }
            }
            return found;
        }

        int fairest(int n) {
            int found = NONE;
            for (int set = 0; set < sets; set++) {
                if (missed[set] == 0 && Integer.bitCount(set) <= n
                        && (found == NONE || isBefore(worst, set, found))) {
                    found = set;
                }
            }
            return found;
        }

        int mostShod(int n) {
            int found = 0;
            for (int set = 1; set < sets; set++) {
                if (Integer.bitCount(set) <= n && isBefore(missed, set, found)) {
                    found = set;
                }
            }
            return found;
        }

        private boolean isBefore(int[] measure, int set, int other) {
            if (measure[set] != measure[other]) {
                return measure[set] < measure[other];
            }
            return totals[set] < totals[other];
        }

        int changedFrom(int set) {
            int now = set;
            // Each change makes the total less, so no set comes twice.
            for (int round = 0; round < sets; round++) {
                int then = bestChange(now);
                if (then == now) {
                    break;
                }
                now = then;
            }
            return now;
        }

        private int bestChange(int set) {
            int found = set;
            for (int outBit = 1; outBit < sets; outBit <<= 1) {
                if ((set & outBit) == 0) {
                    continue;
                }
                for (int inBit = 1; inBit < sets; inBit <<= 1) {
                    int then = (set - outBit) | inBit;
                    if ((set & inBit) == 0 && totals[then] < totals[found]) {
                        found = then;
                    }
                }
            }
            return found;
        }

        int doubtIn(Valley v, int n) {
            int byAll = leastTotal(n);
            int sum = 0;
            for (int foot = 0; foot < v.footCount; foot++) {
                fillLeast(v, foot);
                int byOthers = leastTotalWithout(v, foot, n);
                int above = v.costAt(foot, least[byOthers]) - v.costAt(foot, least[byAll]);
                sum += Math.max(0, above);
            }
            return sum;
        }

        private int leastTotalWithout(Valley v, int foot, int n) {
            int times = v.footPart(foot, TIMES);
            int costOut = v.costAt(foot, NEVER);
            int found = 0;
            int leastSum = totals[0] - costOut;
            for (int set = 1; set < sets; set++) {
                int sum = totals[set] - (least[set] == NEVER ? costOut : times * least[set]);
                if (sum < leastSum && Integer.bitCount(set) <= n) {
                    found = set;
                    leastSum = sum;
                }
            }
            return found;
        }
    }

    /** The best sizes along one measure. */
    private static final class SizeLine {
        final int[] chosen = new int[MAX_SIZES];
        int used = 0;
        int sum = 0;
        private final int[] sizes = new int[MAX_FEET];
        private final int[] weights = new int[MAX_FEET];
        // leastFrom[k][i]: the least sum for sizes[i] on, by just k of them.
        private final int[][] leastFrom = new int[MAX_SIZES + 1][MAX_FEET + 1];
        private int count = 0;

        void solve(Valley v, int measure, int n) {
            count = v.sizesOf(measure, sizes);
            weigh(v, measure);
            fillLeast(n);
            used = 1;
            for (int k = 2; k <= n; k++) {
                if (leastFrom[k][0] < leastFrom[used][0]) {
                    used = k;
                }
            }
            sum = leastFrom[used][0];
            choose();
        }

        private void weigh(Valley v, int measure) {
            for (int i = 0; i < count; i++) {
                int times = 0;
                for (int foot = 0; foot < v.footCount; foot++) {
                    if (v.footPart(foot, measure) == sizes[i]) {
                        times += v.footPart(foot, TIMES);
                    }
                }
                weights[i] = times * v.waste[measure];
            }
        }

        private void fillLeast(int n) {
            for (int k = 0; k <= n; k++) {
                leastFrom[k][count] = k == 0 ? 0 : NEVER;
                for (int i = 0; i < count; i++) {
                    leastFrom[k][i] = NEVER;
                    for (int j = i; k > 0 && j < count; j++) {
                        leastFrom[k][i] = Math.min(leastFrom[k][i], sumBy(k, i, j));
                    }
                }
            }
        }

        /** The least sum from sizes[i] on, if sizes[j] is the first of k chosen ones. */
        private int sumBy(int k, int i, int j) {
            int rest = leastFrom[k - 1][j + 1];
            if (rest == NEVER) {
                return NEVER;
            }
            int here = 0;
            for (int t = i; t < j; t++) {
                here += weights[t] * (sizes[j] - sizes[t]);
            }
            return here + rest;
        }

        /** Of equally good first sizes the least is taken, which makes the whole row the least. */
        private void choose() {
            int i = 0;
            for (int k = used; k > 0; k--) {
                int j = i;
                while (j < count - 1 && sumBy(k, i, j) != leastFrom[k][i]) {
                    j++;
                }
                chosen[used - k] = sizes[j];
                i = j + 1;
            }
        }
    }

    /** Goes through all corners of a valley; there may be 1728, so each share is asked but once, ahead. */
    private static final class CornerSeeker {
        final int[] found = new int[MEASURES];
        int number = NONE;
        int least = NEVER;
        private final int[][] sizes = new int[MEASURES][MAX_FEET];
        // shares[m][i * MAX_FEET + foot]: what size i of measure m is to a foot.
        private final int[][] shares = new int[MEASURES][MAX_FEET * MAX_FEET];
        private final int[] counts = new int[MEASURES];
        private final int[] none = new int[MAX_FEET];
        private final int[] byL = new int[MAX_FEET];
        private final int[] byB = new int[MAX_FEET];
        private final int[] times = new int[MAX_FEET];
        private int footCount = 0;
        private int outCost = 0;

        int countIn(Valley v) {
            int product = 1;
            for (int m = 0; m < MEASURES; m++) {
                counts[m] = v.sizesOf(m, sizes[m]);
                product *= counts[m];
            }
            return product;
        }

        void seekIn(Valley v) {
            countIn(v);
            readFeet(v);
            number = NONE;
            least = NEVER;
            int passed = 0;
            for (int l = 0; l < counts[L]; l++) {
                addShares(L, l, none, byL);
                for (int b = 0; b < counts[B]; b++) {
                    addShares(B, b, byL, byB);
                    for (int h = 0; h < counts[H]; h++) {
                        int sum = sumWith(h);
                        if (sum < least) {
                            least = sum;
                            number = passed;
                            found[L] = sizes[L][l];
                            found[B] = sizes[B][b];
                            found[H] = sizes[H][h];
                        }
                        passed++;
                    }
                }
            }
        }

        private void readFeet(Valley v) {
            footCount = v.footCount;
            outCost = v.outCost;
            for (int foot = 0; foot < footCount; foot++) {
                times[foot] = v.footPart(foot, TIMES);
                for (int m = 0; m < MEASURES; m++) {
                    for (int i = 0; i < counts[m]; i++) {
                        shares[m][i * MAX_FEET + foot] = v.share(foot, m, 0, sizes[m][i]);
                    }
                }
            }
        }

        private void addShares(int measure, int size, int[] before, int[] after) {
            for (int foot = 0; foot < footCount; foot++) {
                int share = shares[measure][size * MAX_FEET + foot];
                after[foot] = share == NONE || before[foot] == NEVER ? NEVER : before[foot] + share;
            }
        }

        private int sumWith(int h) {
            int sum = 0;
            for (int foot = 0; foot < footCount; foot++) {
                int share = shares[H][h * MAX_FEET + foot];
                boolean isOut = share == NONE || byB[foot] == NEVER;
                sum += times[foot] * (isOut ? outCost : byB[foot] + share);
            }
            return sum;
        }
    }

    /** A going-through has a copy of its valley, so that later changes there do not touch it. */
    private static final class GoingThrough {
        final Valley snapshot = new Valley();
        boolean isUnderWay = false;
        int number = NONE;
        int most = 0;
        int next = 0;
        int bestSoFar = NONE;
        int leastSoFar = NONE;

        void start(Valley v, int itsNumber, int n) {
            snapshot.takeFrom(v);
            isUnderWay = true;
            number = itsNumber;
            most = n;
            next = 0;
            bestSoFar = NONE;
            leastSoFar = NONE;
        }

        void takeFrom(GoingThrough other) {
            snapshot.takeFrom(other.snapshot);
            isUnderWay = other.isUnderWay;
            number = other.number;
            most = other.most;
            next = other.next;
            bestSoFar = other.bestSoFar;
            leastSoFar = other.leastSoFar;
        }

        int sets() {
            return 1 << snapshot.lastCount;
        }

        boolean isDone() {
            return next >= sets();
        }

        void lookAt(SetTable table, int k) {
            for (int i = 0; i < k && !isDone(); i++) {
                boolean counts = Integer.bitCount(next) <= most;
                if (counts && (bestSoFar == NONE || table.totals[next] < leastSoFar)) {
                    bestSoFar = next;
                    leastSoFar = table.totals[next];
                }
                next++;
            }
        }
    }
}
