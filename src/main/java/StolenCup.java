import java.util.Arrays;

/**
 * A court of six lands: things pass from hand to hand, and each land's judge says whose they are.
 *
 * <p>Whose a thing is needs no more than one number, the STATE: IN_HAND if its owner holds it, else
 * the passing by which it left the owner's hands. The owner, and the letters e, j and c of a law,
 * follow from that passing, so a state is all that a judge must carry from passing to passing.
 */
public final class StolenCup {
    public static final int NONE = -1;

    private static final int NOTHING = -2;
    private static final int RING = -2;
    private static final int NO_SUCH_SUM = -2000000000;

    private static final int LAST_MONTH = 599;
    private static final int LANDS = 6;
    private static final int LAND_SETS = 64;
    private static final int MOST_PERSONS = 12;
    private static final int MOST_THINGS = 4;
    private static final int MOST_PASSINGS = 20;
    private static final int MOST_MONEY = 1000000;
    private static final int MOST_COST = 10000;
    private static final int MOST_TRAVEL_MONEY = 100000;
    private static final int MOST_UNSURE = 8;
    private static final int TAPE_BYTES = 200;
    private static final int FED_BYTES = 20;
    private static final int LAW_BYTES = 160;
    private static final int MOST_CLAUSES = 12;

    private static final int SALE = 0;
    private static final int LEFT = 2;
    private static final int PAWN = 3;
    private static final int LENT = 4;
    private static final int STOLEN = 5;
    private static final int SEIZED = 7;
    private static final int TIME = 8;

    private static final int MARKET = 1;
    private static final int MERCHANT = 2;
    private static final int REGISTERED = 4;
    private static final int ALL_SIGNS = 7;
    private static final int MINDS = 3;
    private static final int KNEW = 2;

    private static final int TO_ITSELF = 0;
    private static final int TO_PASSING = 1;
    private static final int TO_LAND_AHEAD = 2;
    private static final int TO_HOME_OF_TAKER = 3;
    private static final int TO_HOME_OF_OWNER = 4;
    private static final int TO_FIRST_LAND = 5;

    private static final int IN_HAND = -1;
    private static final int STATES = 21;

    private static final String CLAUSE_LETTERS = "sgwfzyba";
    private static final int CLAUSE_S = 0;
    private static final int CLAUSE_Y = 5;
    private static final int CLAUSE_B = 6;
    private static final int CLAUSE_A = 7;
    private static final int[] CLAUSE_OF_KIND = {0, 1, 2, -1, -1, -1, 3, 4};

    private final int[] homes = new int[MOST_PERSONS];
    private final int[] purses = new int[MOST_PERSONS];
    private final Thing[] things = new Thing[MOST_THINGS];
    private final Law[] laws = new Law[LANDS];
    private final int[][] sendings = new int[LANDS][TIME + 1];
    private final Tape tape = new Tape();
    private final LawReader reader;
    private final Roads roads = new Roads();
    private final Court court;
    private final Doubts doubts;
    private final Claims claims;
    private Law spareLaw = new Law();
    private int today;
    private int personCount;
    private int thingCount;

    public StolenCup() {
        for (int t = 0; t < MOST_THINGS; t++) {
            things[t] = new Thing();
        }
        for (int land = 0; land < LANDS; land++) {
            laws[land] = new Law();
            Arrays.fill(sendings[land], TO_PASSING);
        }
        reader = new LawReader(tape.bytes, spareLaw);
        court = new Court(homes, laws, sendings, things[0]);
        doubts = new Doubts(court);
        claims = new Claims(court);
    }

    public boolean now(int month) {
        if (!isWithin(month, today, LAST_MONTH)) {
            return false;
        }
        today = month;
        return true;
    }

    public int person(int home, int purse) {
        if (personCount >= MOST_PERSONS || !isLand(home) || !isWithin(purse, 0, MOST_MONEY)) {
            return NONE;
        }
        homes[personCount] = home;
        purses[personCount] = purse;
        personCount++;
        return personCount - 1;
    }

    public int thing(int worth, int owner, int land) {
        if (thingCount >= MOST_THINGS || !isWithin(worth, 1, MOST_MONEY) || !isPerson(owner) || !isLand(land)) {
            return NONE;
        }
        Thing made = things[thingCount];
        made.worth = worth;
        made.firstOwner = owner;
        made.firstLand = land;
        thingCount++;
        return thingCount - 1;
    }

    public int passing(int t, int kind, int to, int land, int month, int price, int signs, int low, int high) {
        if (!isThing(t) || !isPerson(to) || !isLand(land) || !isRangeOfMind(low, high)) {
            return NONE;
        }
        if (!isWithin(kind, SALE, SEIZED) || !isWithin(month, 0, today) || !isWithin(signs, 0, ALL_SIGNS)) {
            return NONE;
        }
        if (!isWithin(price, 0, kind == SALE ? MOST_MONEY : 0)) {
            return NONE;
        }
        Thing told = things[t];
        int at = told.placeOf(month);
        if (!told.canGoTo(to, at)) {
            return NONE;
        }
        Passing row = told.insert(at);
        row.goes(kind, to, land, month);
        row.costs(price, signs);
        row.knows(low, high);
        return at;
    }

    public boolean mind(int t, int i, int low, int high) {
        if (!isPassing(t, i) || !isRangeOfMind(low, high)) {
            return false;
        }
        things[t].rows[i].knows(low, high);
        return true;
    }

    public int feed(int a, int b, int c, int d, int e) {
        if (tape.length + FED_BYTES > TAPE_BYTES) {
            return NONE;
        }
        tape.put(a);
        tape.put(b);
        tape.put(c);
        tape.put(d);
        tape.put(e);
        return tape.length;
    }

    public int law(int land, int n) {
        if (!isLand(land) || !isWithin(n, 1, LAW_BYTES) || n > tape.length) {
            return NONE;
        }
        int answer = reader.read(n, spareLaw);
        tape.length = 0;
        if (answer >= 0) {
            Law before = laws[land];
            laws[land] = spareLaw;
            spareLaw = before;
        }
        return answer;
    }

    public boolean sends(int land, int kind, int to) {
        if (!isLand(land) || !isWithin(kind, SALE, TIME) || !isWithin(to, TO_ITSELF, TO_FIRST_LAND)) {
            return false;
        }
        sendings[land][kind] = to;
        return true;
    }

    public int rules(int f, int t, int i, int time) {
        if (!isLand(f) || !isPassing(t, i) || !isWithin(time, 0, 1)) {
            return NONE;
        }
        judge(f, t);
        if (time == 1) {
            return court.rulingLand(i, TIME, court.titles[i]);
        }
        return court.rulingLand(i, things[t].rows[i].kind, court.ownerAhead(i));
    }

    public int whose(int f, int t) {
        if (!isLand(f) || !isThing(t)) {
            return NONE;
        }
        return judge(f, t);
    }

    public int title(int f, int t, int i) {
        if (!isLand(f) || !isPassing(t, i)) {
            return NONE;
        }
        judge(f, t);
        return court.titles[i];
    }

    public int when(int f, int t, int i, int what) {
        if (!isLand(f) || !isPassing(t, i) || !isWithin(what, 0, 1)) {
            return NONE;
        }
        judge(f, t);
        return what == 0 ? court.byTime[i] : court.byPassing[i];
    }

    public int holds(int t) {
        return isThing(t) ? things[t].holder() : NONE;
    }

    public int register(int t) {
        return isThing(t) ? things[t].registeredAhead(things[t].size) : NONE;
    }

    public int may(int f, int t) {
        if (!isLand(f) || !isThing(t) || things[t].unsureCount() > MOST_UNSURE) {
            return NONE;
        }
        court.open(f, things[t], today);
        return doubts.possibleOwners();
    }

    public int hangs(int f, int t) {
        if (!isLand(f) || !isThing(t) || things[t].unsureCount() > MOST_UNSURE) {
            return NONE;
        }
        court.open(f, things[t], today);
        return doubts.decisivePassings();
    }

    public int asked(int f, int t, int i, int what) {
        if (!isLand(f) || !isPassing(t, i) || !isWithin(what, 0, 1)) {
            return NONE;
        }
        judge(f, t);
        claims.settle(purses);
        return what == 0 ? claims.asks[i] : claims.gifts[i];
    }

    public int back(int f, int t) {
        if (!isLand(f) || !isThing(t)) {
            return NONE;
        }
        judge(f, t);
        claims.settle(purses);
        return claims.paidByOwner;
    }

    public int out(int f, int t, int p) {
        if (!isLand(f) || !isThing(t) || !isPerson(p)) {
            return NO_SUCH_SUM;
        }
        judge(f, t);
        claims.settle(purses);
        return claims.lossOf(p);
    }

    public int joined(int f, int t, int u, int what) {
        if (!isLand(f) || !isThing(t) || !isThing(u) || t == u || !isWithin(what, 0, 2)) {
            return NONE;
        }
        boolean isFirstGreater = things[t].worth >= things[u].worth;
        int lesser = isFirstGreater ? u : t;
        int owner = judge(f, isFirstGreater ? t : u);
        if (what == 0) {
            return owner;
        }
        int other = judge(f, lesser);
        if (other == owner) {
            return NONE;
        }
        return what == 1 ? other : things[lesser].worth;
    }

    public boolean road(int a, int b, int cost) {
        if (!isLand(a) || !isLand(b) || a == b || !isWithin(cost, 0, MOST_COST)) {
            return false;
        }
        roads.build(a, b, cost);
        return true;
    }

    public int cheapest(int f, int from, int t, int q, int p, int what) {
        if (!isWithin(what, 0, 1) || !canBeSoldOn(f, from, t, q, p) || p == judge(f, t)) {
            return NONE;
        }
        roads.reckonFrom(from);
        Passing sale = stage(t, from, q, p);
        int best = NOTHING;
        for (int land = 0; land < LANDS; land++) {
            sale.land = land;
            boolean isCheaper = best == NOTHING || roads.least[land] < roads.least[best];
            if (roads.least[land] != NONE && isCheaper && judge(f, t) == p) {
                best = land;
            }
        }
        unstage(t);
        return what == 0 || best == NOTHING ? best : roads.least[best];
    }

    public int stopped(int f, int from, int t, int q, int p, int money) {
        if (!isWithin(money, 0, MOST_TRAVEL_MONEY) || !canBeSoldOn(f, from, t, q, p) || p == judge(f, t)) {
            return NONE;
        }
        long fitting = setsOfLandsWithSales();
        for (int u = 0; u < thingCount; u++) {
            int owner = judge(f, u);
            fitting = setsThatGive(fitting, owner, true);
        }
        roads.reckonFrom(from);
        Passing sale = stage(t, from, q, p);
        for (int land = 0; land < LANDS; land++) {
            if (roads.least[land] != NONE && roads.least[land] <= money) {
                sale.land = land;
                court.open(f, things[t], today);
                fitting = setsThatGive(fitting, p, false);
            }
        }
        unstage(t);
        return leastSet(fitting);
    }

    public int check(int f, int t, int n) {
        if (!isLand(f) || !isThing(t) || !isWithin(n, 0, tape.length / 4)) {
            return NOTHING;
        }
        int owner = judge(f, t);
        int size = things[t].size;
        tape.length = 0;
        for (int i = 0; i < n; i++) {
            if (i > size || tape.number(i) != (i < size ? court.titles[i] : owner)) {
                return i;
            }
        }
        return n <= size ? n : NONE;
    }

    public int look(int t, int i, int what) {
        if (!isPassing(t, i)) {
            return NONE;
        }
        return what == 8 ? things[t].fromWhom(i) : things[t].rows[i].field(what);
    }

    public int count(int what) {
        if (isWithin(what, 10, 19)) {
            return isThing(what - 10) ? things[what - 10].size : NONE;
        }
        if (isWithin(what, 20, 29)) {
            return isLand(what - 20) ? laws[what - 20].clauses : NONE;
        }
        if (isWithin(what, 30, 30 + MOST_PERSONS)) {
            return isPerson(what - 30) ? purses[what - 30] : NONE;
        }
        switch (what) {
            case 0: return today;
            case 1: return personCount;
            case 2: return thingCount;
            case 3: return tape.length;
            default: return NONE;
        }
    }

    private static boolean isWithin(int value, int least, int greatest) {
        return value >= least && value <= greatest;
    }

    private static boolean isLand(int land) {
        return isWithin(land, 0, LANDS - 1);
    }

    private static boolean isRangeOfMind(int low, int high) {
        return low >= 0 && low <= high && high <= KNEW;
    }

    private boolean isPerson(int p) {
        return isWithin(p, 0, personCount - 1);
    }

    private boolean isThing(int t) {
        return isWithin(t, 0, thingCount - 1);
    }

    private boolean isPassing(int t, int i) {
        return isThing(t) && isWithin(i, 0, things[t].size - 1);
    }

    /** Walks through a thing's passings as the judge of f does, with least minds: whose it is now. */
    private int judge(int f, int t) {
        court.open(f, things[t], today);
        court.walk();
        return court.ownerNow();
    }

    private boolean canBeSoldOn(int f, int from, int t, int q, int p) {
        if (!isLand(f) || !isLand(from) || !isThing(t) || !isPerson(q) || !isPerson(p)) {
            return false;
        }
        return p != q && q != things[t].holder() && things[t].size <= MOST_PASSINGS - 2;
    }

    /** Puts the theft and the sale that are only thought of behind the passings of thing t: the sale. */
    private Passing stage(int t, int from, int q, int p) {
        Passing theft = things[t].insert(things[t].size);
        theft.goes(STOLEN, q, from, today);
        theft.costs(0, 0);
        theft.knows(0, 0);
        Passing sale = things[t].insert(things[t].size);
        sale.goes(SALE, p, from, today);
        sale.costs(things[t].worth, MARKET + MERCHANT);
        sale.knows(0, 0);
        return sale;
    }

    private void unstage(int t) {
        things[t].size -= 2;
    }

    /** A land without an s is never in a least set, so only sets of the others are looked at. */
    private long setsOfLandsWithSales() {
        int lands = 0;
        for (int land = 0; land < LANDS; land++) {
            if (laws[land].has(CLAUSE_S)) {
                lands |= 1 << land;
            }
        }
        long sets = 0;
        for (int set = 0; set < LAND_SETS; set++) {
            if ((set & ~lands) == 0) {
                sets |= 1L << set;
            }
        }
        return sets;
    }

    /** Of the sets, those that, stopped, make p the owner (or do not) of the thing that is at court. */
    private long setsThatGive(long sets, int p, boolean wanted) {
        long kept = sets;
        for (int set = 0; set < LAND_SETS; set++) {
            if ((sets >>> set & 1L) != 0) {
                court.stoppedLands = set;
                court.walk();
                if ((court.ownerNow() == p) != wanted) {
                    kept &= ~(1L << set);
                }
            }
        }
        return kept;
    }

    private static int leastSet(long sets) {
        for (int size = 0; size <= LANDS; size++) {
            for (int set = 0; set < LAND_SETS; set++) {
                if (Integer.bitCount(set) == size && (sets >>> set & 1L) != 0) {
                    return set;
                }
            }
        }
        return NOTHING;
    }

    /** One passing; from whom it came is told by the row ahead of it. */
    private static final class Passing {
        private int kind;
        private int to;
        private int land;
        private int month;
        private int price;
        private int signs;
        private int low;
        private int high;

        private void goes(int newKind, int newTo, int newLand, int newMonth) {
            kind = newKind;
            to = newTo;
            land = newLand;
            month = newMonth;
        }

        private void costs(int newPrice, int newSigns) {
            price = newPrice;
            signs = newSigns;
        }

        private void knows(int newLow, int newHigh) {
            low = newLow;
            high = newHigh;
        }

        private int sign(int bit) {
            return (signs & bit) != 0 ? 1 : 0;
        }

        private int field(int what) {
            switch (what) {
                case 0: return kind;
                case 1: return to;
                case 2: return land;
                case 3: return month;
                case 4: return price;
                case 5: return signs;
                case 6: return low;
                case 7: return high;
                default: return NONE;
            }
        }
    }

    /** A thing and its passings; rows from size on are spare ones. */
    private static final class Thing {
        private final Passing[] rows = new Passing[MOST_PASSINGS];
        private int size;
        private int worth;
        private int firstOwner;
        private int firstLand;

        private Thing() {
            for (int i = 0; i < MOST_PASSINGS; i++) {
                rows[i] = new Passing();
            }
        }

        /** Who holds it ahead of passing i, which is he from whom that one goes. */
        private int fromWhom(int i) {
            return i > 0 && i <= size ? rows[i - 1].to : firstOwner;
        }

        private int holder() {
            return fromWhom(size);
        }

        private int registeredAhead(int i) {
            for (int k = Math.min(i, size) - 1; k >= 0; k--) {
                if (rows[k].sign(REGISTERED) == 1) {
                    return rows[k].to;
                }
            }
            return firstOwner;
        }

        private int placeOf(int month) {
            int at = size;
            while (at > 0 && rows[at - 1].month > month) {
                at--;
            }
            return at;
        }

        private boolean canGoTo(int to, int at) {
            if (size >= MOST_PASSINGS || to == fromWhom(at)) {
                return false;
            }
            return at >= size || rows[at].to != to;
        }

        /** Makes room ahead of row at with the next spare row; the caller has seen that there is one. */
        private Passing insert(int at) {
            Passing spare = rows[size];
            for (int k = size; k > at; k--) {
                rows[k] = rows[k - 1];
            }
            rows[at] = spare;
            size++;
            return spare;
        }

        private int unsureCount() {
            int unsure = 0;
            for (int i = 0; i < size; i++) {
                if (rows[i].low < rows[i].high) {
                    unsure++;
                }
            }
            return unsure;
        }
    }

    /** The roads between the lands, and what the way from one of them costs at least. */
    private static final class Roads {
        private final int[][] costs = new int[LANDS][LANDS];
        private final int[] least = new int[LANDS];

        private Roads() {
            for (int land = 0; land < LANDS; land++) {
                Arrays.fill(costs[land], NONE);
            }
        }

        private void build(int a, int b, int cost) {
            costs[a][b] = cost;
            costs[b][a] = cost;
        }

        private void reckonFrom(int from) {
            Arrays.fill(least, NONE);
            least[from] = 0;
            // No cheapest way has more roads than there are other lands.
            for (int round = 1; round < LANDS; round++) {
                for (int a = 0; a < LANDS; a++) {
                    for (int b = 0; b < LANDS; b++) {
                        goOn(a, b);
                    }
                }
            }
        }

        private void goOn(int a, int b) {
            if (least[a] == NONE || costs[a][b] == NONE) {
                return;
            }
            int sum = least[a] + costs[a][b];
            if (least[b] == NONE || sum < least[b]) {
                least[b] = sum;
            }
        }
    }

    /** The bytes that were fed and not yet used. */
    private static final class Tape {
        private final byte[] bytes = new byte[TAPE_BYTES];
        private int length;

        private void put(int number) {
            for (int shift = 24; shift >= 0 && length < TAPE_BYTES; shift -= 8) {
                bytes[length] = (byte) (number >>> shift);
                length++;
            }
        }

        private int number(int i) {
            int value = 0;
            for (int k = 4 * i; k < 4 * i + 4 && k < TAPE_BYTES; k++) {
                value = value << 8 | bytes[k] & 255;
            }
            return value;
        }
    }

    /**
     * A law as steps for the Reckoner, one at most for each byte of its text. The two skips jump ahead
     * and keep what they looked at: so no more of a condition is asked than matters.
     */
    private static final class Law {
        private static final int NUMBER = 0;
        private static final int LETTER = 1;
        private static final int NOT = 2;
        private static final int SKIP_IF_HOLDS = 3;
        private static final int SKIP_IF_NOT = 4;
        private static final int END = 5;

        private final int[] steps = new int[LAW_BYTES];
        private final int[] args = new int[LAW_BYTES];
        private final int[] letters = new int[MOST_CLAUSES];
        private final int[] starts = new int[MOST_CLAUSES];
        private int length;
        private int clauses;

        private boolean has(int letter) {
            for (int c = 0; c < clauses; c++) {
                if (letters[c] == letter) {
                    return true;
                }
            }
            return false;
        }

        private void begin(int letter) {
            if (clauses < MOST_CLAUSES) {
                letters[clauses] = letter;
                starts[clauses] = length;
                clauses++;
            }
        }

        /** Adds a step (an operator stands for itself, by its sign) and tells its place. */
        private int add(int step, int arg) {
            if (length < LAW_BYTES) {
                steps[length] = step;
                args[length] = arg;
                length++;
            }
            return length - 1;
        }

        /** Lets a chain of skips, each of which tells the one added ahead of it, end here. */
        private void endSkips(int last) {
            int at = last;
            for (int n = 0; n < LAW_BYTES && isWithin(at, 0, length - 1); n++) {
                int ahead = args[at];
                args[at] = length;
                at = ahead;
            }
        }
    }

    /** Reads the text of a law from the left; depth is how many of ( [ ! are open. */
    private static final class LawReader {
        private static final int CANNOT_STAND = 1;
        private static final int SEVENTH_DIGIT = 2;
        private static final int TOO_MANY_CLAUSES = 4;
        private static final int TOO_DEEP = 5;
        private static final int MOST_OPEN = 6;
        private static final int MOST_DIGITS = 6;
        private static final String VALUE_LETTERS = "kmnrexvdjclho";

        private final byte[] text;
        private int end;
        private int at;
        private int fault;
        private Law draft;

        private LawReader(byte[] theText, Law firstDraft) {
            text = theText;
            draft = firstDraft;
        }

        /** How many clauses the first n bytes have, read into that law; or the fault. */
        private int read(int n, Law into) {
            end = Math.min(n, text.length);
            at = 0;
            fault = 0;
            draft = into;
            draft.length = 0;
            draft.clauses = 0;
            for (int c = 0; c <= MOST_CLAUSES; c++) {
                clause();
                if (fault != 0 || at == end) {
                    break;
                }
                expect(';');
            }
            return fault != 0 ? fault : draft.clauses;
        }

        /** The sign at hand; the end counts as 0, which can stand nowhere either. */
        private char sign() {
            return at < end ? (char) (text[at] & 255) : 0;
        }

        private void fail(int number) {
            if (fault == 0) {
                fault = -1000 * number - at;
            }
        }

        private void expect(char wanted) {
            if (sign() == wanted) {
                at++;
            } else {
                fail(CANNOT_STAND);
            }
        }

        private boolean opens(int depth) {
            if (depth >= MOST_OPEN) {
                fail(TOO_DEEP);
                return false;
            }
            at++;
            return true;
        }

        private void clause() {
            int letter = CLAUSE_LETTERS.indexOf(sign());
            if (letter < 0) {
                fail(CANNOT_STAND);
            } else if (draft.clauses >= MOST_CLAUSES) {
                fail(TOO_MANY_CLAUSES);
            } else if (fault == 0) {
                draft.begin(letter);
                at++;
                expect('(');
                condition(1);
                expect(')');
                draft.add(Law.END, 0);
            }
        }

        private void condition(int depth) {
            int skips = NONE;
            part(depth);
            for (int n = 0; n < LAW_BYTES && fault == 0 && sign() == '|'; n++) {
                at++;
                skips = draft.add(Law.SKIP_IF_HOLDS, skips);
                part(depth);
            }
            draft.endSkips(skips);
        }

        private void part(int depth) {
            int skips = NONE;
            piece(depth);
            for (int n = 0; n < LAW_BYTES && fault == 0 && sign() == '&'; n++) {
                at++;
                skips = draft.add(Law.SKIP_IF_NOT, skips);
                piece(depth);
            }
            draft.endSkips(skips);
        }

        private void piece(int depth) {
            if (fault != 0) {
                return;
            }
            if (sign() == '!') {
                if (opens(depth)) {
                    piece(depth + 1);
                    draft.add(Law.NOT, 0);
                }
            } else if (sign() == '(') {
                if (opens(depth)) {
                    condition(depth + 1);
                    expect(')');
                }
            } else {
                comparison(depth);
            }
        }

        private void comparison(int depth) {
            sum(depth);
            char operator = sign();
            if (operator != '<' && operator != '>' && operator != '=') {
                fail(CANNOT_STAND);
            }
            if (fault == 0) {
                at++;
                sum(depth);
                draft.add(operator, 0);
            }
        }

        private void sum(int depth) {
            product(depth);
            char operator = sign();
            for (int n = 0; n < LAW_BYTES && fault == 0 && (operator == '+' || operator == '-'); n++) {
                at++;
                product(depth);
                draft.add(operator, 0);
                operator = sign();
            }
        }

        private void product(int depth) {
            factor(depth);
            char operator = sign();
            for (int n = 0; n < LAW_BYTES && fault == 0 && isOfProduct(operator); n++) {
                at++;
                factor(depth);
                draft.add(operator, 0);
                operator = sign();
            }
        }

        private static boolean isOfProduct(char operator) {
            return operator == '*' || operator == '/' || operator == '%';
        }

        private void factor(int depth) {
            if (fault != 0) {
                return;
            }
            int letter = VALUE_LETTERS.indexOf(sign());
            if (sign() == '[') {
                if (opens(depth)) {
                    sum(depth + 1);
                    expect(']');
                }
            } else if (isDigit(sign())) {
                number();
            } else if (letter >= 0) {
                at++;
                draft.add(Law.LETTER, letter);
            } else {
                fail(CANNOT_STAND);
            }
        }

        private static boolean isDigit(char sign) {
            return sign >= '0' && sign <= '9';
        }

        private void number() {
            int value = 0;
            for (int n = 0; n < MOST_DIGITS && isDigit(sign()); n++) {
                value = 10 * value + sign() - '0';
                at++;
            }
            if (isDigit(sign())) {
                fail(SEVENTH_DIGIT);
            }
            draft.add(Law.NUMBER, value);
        }
    }

    /** Reckons the clauses of a law with the values of its letters. */
    private static final class Reckoner {
        private static final int K = 0;
        private static final int M = 1;
        private static final int N = 2;
        private static final int R = 3;
        private static final int E = 4;
        private static final int X = 5;
        private static final int V = 6;
        private static final int D = 7;
        private static final int J = 8;
        private static final int C = 9;
        private static final int L = 10;
        private static final int H = 11;
        private static final int O = 12;
        private static final int LETTERS = 13;
        private static final int STACK = 64;

        private final int[] values = new int[LETTERS];
        private final int[] stack = new int[STACK];

        private boolean isOneHolding(Law law, int letter) {
            for (int c = 0; c < law.clauses; c++) {
                if (law.letters[c] == letter && isHolding(law, law.starts[c])) {
                    return true;
                }
            }
            return false;
        }

        /** Whether a clause holds; one in which something is divided by 0 does not. */
        private boolean isHolding(Law law, int start) {
            int depth = 0;
            for (int at = start; at < law.length; at++) {
                int step = law.steps[at];
                int arg = law.args[at];
                if (step == Law.NUMBER || step == Law.LETTER) {
                    if (depth >= STACK) {
                        return false;
                    }
                    stack[depth] = step == Law.NUMBER ? arg : values[arg];
                    depth++;
                } else if (depth < 1) {
                    return false;
                } else if (step == Law.END) {
                    return stack[depth - 1] != 0;
                } else if (step == Law.NOT) {
                    stack[depth - 1] = stack[depth - 1] == 0 ? 1 : 0;
                } else if (step != Law.SKIP_IF_HOLDS && step != Law.SKIP_IF_NOT) {
                    int right = stack[depth - 1];
                    boolean isDivision = step == '/' || step == '%';
                    if (depth < 2 || right == 0 && isDivision) {
                        return false;
                    }
                    depth--;
                    stack[depth - 1] = combine(step, stack[depth - 1], right);
                } else if ((stack[depth - 1] != 0) == (step == Law.SKIP_IF_HOLDS)) {
                    at = Math.max(at, arg - 1);
                } else {
                    depth--;
                }
            }
            return false;
        }

        private static int combine(int operator, int left, int right) {
            switch (operator) {
                case '+': return left + right;
                case '-': return left - right;
                case '*': return left * right;
                case '/': return right == 0 ? 0 : left / right;
                case '%': return right == 0 ? 0 : left % right;
                case '<': return left < right ? 1 : 0;
                case '>': return left > right ? 1 : 0;
                case '=': return left == right ? 1 : 0;
                default: return 0;
            }
        }
    }

    /** A judge of one land who looks at one thing. */
    private static final class Court {
        private final int[] homes;
        private final Law[] laws;
        private final int[][] sendings;
        private final Reckoner reckoner = new Reckoner();
        private final int[] states = new int[MOST_PASSINGS + 1];
        private final int[] titles = new int[MOST_PASSINGS];
        private final int[] byTime = new int[MOST_PASSINGS];
        private final int[] byPassing = new int[MOST_PASSINGS];
        // What time gives does not hang on the lands that are stopped: it is looked for once a case.
        private final int[] timeCase = new int[MOST_PASSINGS * MOST_PASSINGS * MINDS];
        private final int[] timeMonth = new int[MOST_PASSINGS * MOST_PASSINGS * MINDS];
        private int caseNumber;
        private int land;
        private Thing thing;
        private int today;
        private int stoppedLands;
        private int monthGiven;

        private Court(int[] theHomes, Law[] theLaws, int[][] theSendings, Thing firstThing) {
            homes = theHomes;
            laws = theLaws;
            sendings = theSendings;
            thing = firstThing;
        }

        private void open(int f, Thing atCourt, int month) {
            caseNumber++;
            land = f;
            thing = atCourt;
            today = month;
            stoppedLands = 0;
        }

        /** Goes through all passings with least minds and keeps what is found at each. */
        private void walk() {
            states[0] = IN_HAND;
            for (int i = 0; i < thing.size; i++) {
                int mind = thing.rows[i].low;
                int state = handOver(i, states[i], mind);
                titles[i] = state == IN_HAND ? thing.rows[i].to : thing.fromWhom(state);
                // A passing back to the owner makes nobody the owner, whatever a clause would give.
                byPassing[i] = titles[i] != ownerAhead(i) ? 1 : 0;
                states[i + 1] = waitBehind(i, state, mind);
                byTime[i] = monthGiven;
            }
        }

        private int ownerNow() {
            return ownerAhead(thing.size);
        }

        /** The owner ahead of passing i, behind the time that goes by till then. */
        private int ownerAhead(int i) {
            return ownerIn(states[i], i);
        }

        private int ownerIn(int state, int i) {
            return thing.fromWhom(state == IN_HAND ? i : state);
        }

        /** The state behind passing i, but for time. */
        private int handOver(int i, int state, int mind) {
            Passing row = thing.rows[i];
            int left = state == IN_HAND ? i : state;
            boolean isGiven = state == IN_HAND && row.kind <= LEFT;
            boolean isBack = row.to == thing.fromWhom(left);
            return isGiven || isBack || givesTitle(i, left, mind) ? IN_HAND : left;
        }

        /** The state that time makes of the one behind passing i, up to the next one or to now. */
        private int waitBehind(int i, int state, int mind) {
            monthGiven = NONE;
            if (state == IN_HAND) {
                return IN_HAND;
            }
            int key = (i * MOST_PASSINGS + state) * MINDS + mind;
            if (!isWithin(key, 0, timeCase.length - 1)) {
                return state;
            }
            if (timeCase[key] != caseNumber) {
                timeCase[key] = caseNumber;
                timeMonth[key] = findMonth(i, state, mind);
            }
            monthGiven = timeMonth[key];
            return monthGiven == NONE ? state : IN_HAND;
        }

        private boolean givesTitle(int i, int left, int mind) {
            int kind = thing.rows[i].kind;
            int letter = CLAUSE_OF_KIND[kind];
            if (letter == NONE) {
                return false;
            }
            int ruling = askedLand(i, kind, thing.fromWhom(left));
            boolean isStopped = letter == CLAUSE_S && (stoppedLands >>> ruling & 1) != 0;
            if (isStopped || !laws[ruling].has(letter)) {
                return false;
            }
            setLetters(i, left, mind);
            return reckoner.isOneHolding(laws[ruling], letter);
        }

        /** Whether the law asked for passing i, a sale from another than the owner, has b or a hold. */
        private boolean isClaimHolding(int i, int letter) {
            int left = states[i];
            if (left == IN_HAND) {
                return false;
            }
            Law law = laws[askedLand(i, thing.rows[i].kind, thing.fromWhom(left))];
            setLetters(i, left, thing.rows[i].low);
            return reckoner.isOneHolding(law, letter);
        }

        private int findMonth(int i, int left, int mind) {
            Law law = laws[askedLand(i, TIME, thing.fromWhom(left))];
            if (!law.has(CLAUSE_Y)) {
                return NONE;
            }
            setLetters(i, left, mind);
            int taken = thing.rows[i].month;
            int last = i + 1 < thing.size ? thing.rows[i + 1].month : today;
            for (int month = taken + 1; month <= last; month++) {
                reckoner.values[Reckoner.D] = month - taken;
                reckoner.values[Reckoner.J] = month - thing.rows[left].month;
                if (reckoner.isOneHolding(law, CLAUSE_Y)) {
                    return month;
                }
            }
            return NONE;
        }

        private void setLetters(int i, int left, int mind) {
            Passing row = thing.rows[i];
            Passing leaving = thing.rows[left];
            int[] values = reckoner.values;
            values[Reckoner.K] = mind;
            values[Reckoner.M] = row.sign(MARKET);
            values[Reckoner.N] = row.sign(MERCHANT);
            values[Reckoner.R] = thing.registeredAhead(i) == thing.fromWhom(i) ? 1 : 0;
            values[Reckoner.E] = leaving.kind == PAWN || leaving.kind == LENT ? 1 : 0;
            values[Reckoner.X] = row.price;
            values[Reckoner.V] = thing.worth;
            values[Reckoner.D] = 0;
            values[Reckoner.J] = row.month - leaving.month;
            values[Reckoner.C] = i - left + 1;
            values[Reckoner.L] = row.land;
            values[Reckoner.H] = homes[row.to];
            values[Reckoner.O] = homes[thing.fromWhom(left)];
        }

        private int askedLand(int i, int kind, int owner) {
            int ruling = rulingLand(i, kind, owner);
            return ruling == RING ? land : ruling;
        }

        /** The land whose law rules passing i, or RING. */
        private int rulingLand(int i, int kind, int owner) {
            int asked = 0;
            int at = land;
            for (int n = 0; n < LANDS; n++) {
                asked |= 1 << at;
                int next = landSentTo(at, i, kind, owner);
                if (next == at) {
                    return at;
                }
                if ((asked >>> next & 1) != 0) {
                    return RING;
                }
                at = next;
            }
            return RING;
        }

        private int landSentTo(int from, int i, int kind, int owner) {
            switch (sendings[from][kind]) {
                case TO_PASSING: return thing.rows[i].land;
                case TO_LAND_AHEAD: return i > 0 ? thing.rows[i - 1].land : thing.firstLand;
                case TO_HOME_OF_TAKER: return homes[thing.rows[i].to];
                case TO_HOME_OF_OWNER: return homes[owner];
                case TO_FIRST_LAND: return thing.firstLand;
                default: return from;
            }
        }
    }

    /**
     * What hangs on minds. Sets of states are bits (state + 1); states that the same minds lead to are
     * followed together, so that nothing is reckoned for each choice of minds by itself.
     */
    private static final class Doubts {
        private final Court court;
        private final int[] reached = new int[MOST_PASSINGS + 1];
        private final int[] next = new int[MOST_PASSINGS * STATES * MINDS];
        private int[] pairs = new int[STATES];
        private int[] pairsBehind = new int[STATES];

        private Doubts(Court theCourt) {
            court = theCourt;
        }

        private int possibleOwners() {
            spread();
            int size = court.thing.size;
            int owners = 0;
            for (int s = 0; s < STATES; s++) {
                if ((reached[size] >>> s & 1) != 0) {
                    owners |= 1 << court.ownerIn(s - 1, size);
                }
            }
            return owners;
        }

        private int decisivePassings() {
            spread();
            int decisive = 0;
            for (int i = 0; i < court.thing.size; i++) {
                if (isDecisive(i)) {
                    decisive |= 1 << i;
                }
            }
            return decisive;
        }

        /** Finds the states that can be ahead of each passing, and where each mind leads from them. */
        private void spread() {
            reached[0] = 1 << (IN_HAND + 1);
            for (int i = 0; i < court.thing.size; i++) {
                Passing row = court.thing.rows[i];
                reached[i + 1] = 0;
                for (int s = 0; s < STATES; s++) {
                    for (int mind = row.low; (reached[i] >>> s & 1) != 0 && mind <= row.high; mind++) {
                        int state = court.handOver(i, s - 1, mind);
                        int behind = court.waitBehind(i, state, mind) + 1;
                        next[(i * STATES + s) * MINDS + mind] = behind;
                        reached[i + 1] |= 1 << behind;
                    }
                }
            }
        }

        private int nextOf(int i, int s, int mind) {
            return next[(i * STATES + s) * MINDS + mind];
        }

        private boolean isDecisive(int i) {
            Passing row = court.thing.rows[i];
            if (row.low == row.high) {
                return false;
            }
            Arrays.fill(pairs, 0);
            for (int s = 0; s < STATES; s++) {
                for (int mind = row.low; (reached[i] >>> s & 1) != 0 && mind < row.high; mind++) {
                    for (int other = mind + 1; other <= row.high; other++) {
                        pair(pairs, nextOf(i, s, mind), nextOf(i, s, other));
                    }
                }
            }
            for (int k = i + 1; k < court.thing.size; k++) {
                movePairs(k);
            }
            return isOnePairLeft();
        }

        private static void pair(int[] rows, int one, int other) {
            if (one != other) {
                rows[Math.min(one, other)] |= 1 << Math.max(one, other);
            }
        }

        /** Two states go on together: all other minds are the same for both. */
        private void movePairs(int i) {
            Passing row = court.thing.rows[i];
            Arrays.fill(pairsBehind, 0);
            for (int one = 0; one < STATES; one++) {
                for (int other = one + 1; pairs[one] != 0 && other < STATES; other++) {
                    for (int mind = row.low; (pairs[one] >>> other & 1) != 0 && mind <= row.high; mind++) {
                        pair(pairsBehind, nextOf(i, one, mind), nextOf(i, other, mind));
                    }
                }
            }
            int[] used = pairs;
            pairs = pairsBehind;
            pairsBehind = used;
        }

        /** Two states that differ have two owners: it can't have left one's hands twice but by coming back. */
        private boolean isOnePairLeft() {
            for (int one = 0; one < STATES; one++) {
                if (pairs[one] != 0) {
                    return true;
                }
            }
            return false;
        }
    }

    /** Who asks what of whom when the thing at court is given back, behind the court's walk. */
    private static final class Claims {
        private final Court court;
        private final int[] asks = new int[MOST_PASSINGS];
        private final int[] gifts = new int[MOST_PASSINGS];
        private final int[] left = new int[MOST_PERSONS];
        private int paidByOwner;

        private Claims(Court theCourt) {
            court = theCourt;
        }

        private void settle(int[] purses) {
            Thing thing = court.thing;
            Arrays.fill(asks, NOTHING);
            Arrays.fill(gifts, NOTHING);
            paidByOwner = NOTHING;
            int last = thing.size - 1;
            if (last < 0 || court.ownerNow() == thing.holder()) {
                return;
            }
            paidByOwner = 0;
            if (thing.rows[last].kind == SALE && court.isClaimHolding(last, CLAUSE_B)) {
                paidByOwner = thing.rows[last].price;
                return;
            }
            System.arraycopy(purses, 0, left, 0, MOST_PERSONS);
            for (int i = last; i >= 0 && isAskedBack(i); i--) {
                askBack(i);
            }
        }

        private boolean isAskedBack(int i) {
            Thing thing = court.thing;
            boolean isFromOther = thing.fromWhom(i) != court.ownerAhead(i);
            return thing.rows[i].kind == SALE && isFromOther && court.isClaimHolding(i, CLAUSE_A);
        }

        private void askBack(int i) {
            int giver = court.thing.fromWhom(i);
            asks[i] = court.thing.rows[i].price;
            gifts[i] = Math.min(asks[i], left[giver]);
            left[giver] -= gifts[i];
        }

        private int lossOf(int p) {
            Thing thing = court.thing;
            int loss = 0;
            for (int i = 0; i < thing.size; i++) {
                int paid = thing.rows[i].price - Math.max(gifts[i], 0);
                if (thing.rows[i].to == p) {
                    loss += paid;
                }
                if (thing.fromWhom(i) == p) {
                    loss -= paid;
                }
            }
            if (thing.firstOwner == p) {
                loss += thing.worth;
            }
            if (court.ownerNow() == p) {
                loss += Math.max(paidByOwner, 0) - thing.worth;
            }
            if (thing.holder() == p) {
                loss -= Math.max(paidByOwner, 0);
            }
            return loss;
        }
    }
}
