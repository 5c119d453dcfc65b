import java.util.ArrayList;
import java.util.List;

/**
 * The document told again in the slowest and plainest way, for tests alone: laws are read from their
 * texts whenever they are asked, all choices of minds and all sets of lands are tried one by one.
 */
final class PlainCup {
    /** A law whose text is at fault. */
    static final class Fault extends RuntimeException {
        private static final long serialVersionUID = 1L;
        final int code;

        Fault(int number, int place) {
            code = -1000 * number - place;
        }
    }

    /** What is divided by 0. */
    static final class Refused extends RuntimeException {
        private static final long serialVersionUID = 1L;
    }

    static final class Row implements Cloneable {
        int kind;
        int to;
        int land;
        int month;
        int price;
        int signs;
        int low;
        int high;

        Row(int... f) {
            kind = f[0];
            to = f[1];
            land = f[2];
            month = f[3];
            price = f[4];
            signs = f[5];
            low = f[6];
            high = f[7];
        }
    }

    static final class Item {
        int worth;
        int owner;
        int land;
        List<Row> rows = new ArrayList<>();

        int from(int i) {
            return i == 0 ? owner : rows.get(i - 1).to;
        }

        int landAhead(int i) {
            return i == 0 ? land : rows.get(i - 1).land;
        }

        int registerAhead(int i) {
            int said = owner;
            for (int k = 0; k < i; k++) {
                if ((rows.get(k).signs & 4) != 0) {
                    said = rows.get(k).to;
                }
            }
            return said;
        }
    }

    /** All that one walk through the passings finds. */
    static final class Walk {
        int[] title = new int[20];
        int[] since = new int[20];
        int[] made = new int[20];
        int[] rules = new int[20];
        int[] rulesTime = new int[20];
        boolean[] holdsA = new boolean[20];
        boolean[] holdsB = new boolean[20];
        int[] ownerAhead = new int[20];
        int owner;
    }

    int now;
    List<int[]> persons = new ArrayList<>();
    List<Item> items = new ArrayList<>();
    String[] laws = {"", "", "", "", "", ""};
    int[] clauses = new int[6];
    int[][] sendTo = new int[6][9];
    int[][] roads = new int[6][6];
    List<Integer> tape = new ArrayList<>();
    private String s;
    private int p;
    private int[] letters;

    PlainCup() {
        for (int a = 0; a < 6; a++) {
            for (int k = 0; k < 9; k++) {
                sendTo[a][k] = 1;
            }
            for (int b = 0; b < 6; b++) {
                roads[a][b] = -1;
            }
        }
    }

    // ---- texts of laws

    private char sign() {
        return p < s.length() ? s.charAt(p) : '\uffff';
    }

    private void take(char c) {
        if (sign() != c) {
            throw new Fault(1, p);
        }
        p++;
    }

    private void open(int depth) {
        if (depth == 6) {
            throw new Fault(5, p);
        }
        p++;
    }

    /** Reads a condition; if it is live it is reckoned, else only passed over. */
    private boolean cond(int depth, boolean live) {
        boolean value = part(depth, live);
        while (sign() == '|') {
            p++;
            boolean next = part(depth, live && !value);
            value = value || next;
        }
        return value;
    }

    private boolean part(int depth, boolean live) {
        boolean value = piece(depth, live);
        while (sign() == '&') {
            p++;
            boolean next = piece(depth, live && value);
            value = value && next;
        }
        return value;
    }

    private boolean piece(int depth, boolean live) {
        if (sign() == '!') {
            open(depth);
            return !piece(depth + 1, live);
        }
        if (sign() == '(') {
            open(depth);
            boolean value = cond(depth + 1, live);
            take(')');
            return value;
        }
        int a = sum(depth, live);
        char op = sign();
        if ("<>=".indexOf(op) < 0) {
            throw new Fault(1, p);
        }
        p++;
        int b = sum(depth, live);
        return op == '<' ? a < b : op == '>' ? a > b : a == b;
    }

    private int sum(int depth, boolean live) {
        int value = term(depth, live);
        while (sign() == '+' || sign() == '-') {
            char op = sign();
            p++;
            int next = term(depth, live);
            value = op == '+' ? value + next : value - next;
        }
        return value;
    }

    private int term(int depth, boolean live) {
        int value = factor(depth, live);
        while (sign() == '*' || sign() == '/' || sign() == '%') {
            char op = sign();
            p++;
            int next = factor(depth, live);
            if (op != '*' && next == 0) {
                if (live) {
                    throw new Refused();
                }
                next = 1;
            }
            value = op == '*' ? value * next : op == '/' ? value / next : value % next;
        }
        return value;
    }

    private int factor(int depth, boolean live) {
        if (sign() == '[') {
            open(depth);
            int value = sum(depth + 1, live);
            take(']');
            return value;
        }
        if (Character.isDigit(sign()) && sign() < 128) {
            int begin = p;
            while (p < s.length() && s.charAt(p) >= '0' && s.charAt(p) <= '9') {
                if (p - begin == 6) {
                    throw new Fault(2, p);
                }
                p++;
            }
            return Integer.parseInt(s.substring(begin, p));
        }
        int letter = "kmnrexvdjclho".indexOf(sign());
        if (letter < 0) {
            throw new Fault(1, p);
        }
        p++;
        return letters == null ? 1 : letters[letter];
    }

    private int readLaw(String text) {
        s = text;
        p = 0;
        letters = null;
        int n = 0;
        while (true) {
            if ("sgwfzyba".indexOf(sign()) < 0) {
                throw new Fault(1, p);
            }
            if (n == 12) {
                throw new Fault(4, p);
            }
            p++;
            take('(');
            cond(1, false);
            take(')');
            n++;
            if (p == s.length()) {
                return n;
            }
            take(';');
        }
    }

    private boolean lawHolds(int land, char letter, int[] values) {
        for (String clause : laws[land].split(";")) {
            if (clause.isEmpty() || clause.charAt(0) != letter) {
                continue;
            }
            s = clause;
            p = 2;
            letters = values;
            try {
                if (cond(1, true)) {
                    return true;
                }
            } catch (Refused r) {
                continue;
            }
        }
        return false;
    }

    // ---- judges

    int ruling(int f, Item x, int i, int kind, int owner) {
        List<Integer> askedOnes = new ArrayList<>();
        int at = f;
        while (true) {
            askedOnes.add(at);
            int[] where = {at, x.rows.get(i).land, x.landAhead(i), persons.get(x.rows.get(i).to)[0],
                persons.get(owner)[0], x.land};
            int next = where[sendTo[at][kind]];
            if (next == at) {
                return at;
            }
            if (askedOnes.contains(next)) {
                return -2;
            }
            at = next;
        }
    }

    Walk walk(int f, Item x, int[] minds, int stoppedSet) {
        Walk w = new Walk();
        int owner = x.owner;
        int holder = x.owner;
        int e = 0;
        int leftAt = 0;
        int c = 0;
        for (int i = 0; i < x.rows.size(); i++) {
            Row r = x.rows.get(i);
            w.ownerAhead[i] = owner;
            w.rules[i] = ruling(f, x, i, r.kind, owner);
            int land = w.rules[i] == -2 ? f : w.rules[i];
            boolean fromOwner = holder == owner;
            if (fromOwner && r.kind > 2) {
                e = r.kind == 3 || r.kind == 4 ? 1 : 0;
                leftAt = r.month;
                c = 1;
            } else if (!fromOwner) {
                c++;
            }
            int[] v = {minds[i], r.signs & 1, r.signs >> 1 & 1, x.registerAhead(i) == holder ? 1 : 0, e, r.price,
                x.worth, 0, r.month - leftAt, c, r.land, persons.get(r.to)[0], persons.get(owner)[0]};
            char letter = "sgw---fz".charAt(r.kind);
            boolean gives;
            if (fromOwner && r.kind <= 2) {
                gives = true;
            } else if (letter == '-' || letter == 's' && (stoppedSet >> land & 1) == 1) {
                gives = false;
            } else {
                gives = lawHolds(land, letter, v);
            }
            w.holdsA[i] = lawHolds(land, 'a', v);
            w.holdsB[i] = lawHolds(land, 'b', v);
            if (gives) {
                owner = r.to;
            }
            holder = r.to;
            w.title[i] = owner;
            w.made[i] = gives && w.ownerAhead[i] != r.to ? 1 : 0;
            w.since[i] = -1;
            w.rulesTime[i] = ruling(f, x, i, 8, owner);
            int end = i + 1 < x.rows.size() ? x.rows.get(i + 1).month : now;
            for (int m = r.month + 1; m <= end && owner != holder; m++) {
                int[] y = v.clone();
                y[7] = m - r.month;
                y[8] = m - leftAt;
                y[12] = persons.get(owner)[0];
                if (lawHolds(w.rulesTime[i] == -2 ? f : w.rulesTime[i], 'y', y)) {
                    owner = holder;
                    w.since[i] = m;
                }
            }
        }
        w.owner = owner;
        return w;
    }

    private int[] leastMinds(Item x) {
        return x.rows.stream().mapToInt(r -> r.low).toArray();
    }

    private Walk walk(int f, int t) {
        return walk(f, items.get(t), leastMinds(items.get(t)), 0);
    }

    private boolean in(int v, int a, int b) {
        return v >= a && v <= b;
    }

    private boolean land(int f) {
        return in(f, 0, 5);
    }

    private boolean isItem(int t) {
        return in(t, 0, items.size() - 1);
    }

    private boolean isRow(int t, int i) {
        return isItem(t) && in(i, 0, items.get(t).rows.size() - 1);
    }

    private boolean isMan(int q) {
        return in(q, 0, persons.size() - 1);
    }

    // ---- the face

    boolean now(int month) {
        if (!in(month, 0, 599) || month < now) {
            return false;
        }
        now = month;
        return true;
    }

    int person(int home, int purse) {
        if (!land(home) || !in(purse, 0, 1000000) || persons.size() == 12) {
            return -1;
        }
        persons.add(new int[] {home, purse});
        return persons.size() - 1;
    }

    int thing(int worth, int owner, int land) {
        if (!in(worth, 1, 1000000) || !isMan(owner) || !land(land) || items.size() == 4) {
            return -1;
        }
        Item x = new Item();
        x.worth = worth;
        x.owner = owner;
        x.land = land;
        items.add(x);
        return items.size() - 1;
    }

    int passing(int t, int kind, int to, int land, int month, int price, int signs, int low, int high) {
        if (!isItem(t) || !in(kind, 0, 7) || !isMan(to) || !land(land) || !in(month, 0, now)
            || !in(price, 0, 1000000) || kind != 0 && price != 0 || !in(signs, 0, 7)
            || !in(low, 0, 2) || !in(high, low, 2)) {
            return -1;
        }
        Item x = items.get(t);
        if (x.rows.size() == 20) {
            return -1;
        }
        int at = 0;
        for (int k = 0; k < x.rows.size(); k++) {
            if (x.rows.get(k).month <= month) {
                at = k + 1;
            }
        }
        x.rows.add(at, new Row(kind, to, land, month, price, signs, low, high));
        for (int k = 0; k < x.rows.size(); k++) {
            if (x.rows.get(k).to == x.from(k)) {
                x.rows.remove(at);
                return -1;
            }
        }
        return at;
    }

    boolean mind(int t, int i, int low, int high) {
        if (!isRow(t, i) || !in(low, 0, 2) || !in(high, low, 2)) {
            return false;
        }
        items.get(t).rows.get(i).low = low;
        items.get(t).rows.get(i).high = high;
        return true;
    }

    int feed(int a, int b, int c, int d, int e) {
        if (tape.size() > 180) {
            return -1;
        }
        for (int v : new int[] {a, b, c, d, e}) {
            for (int k = 3; k >= 0; k--) {
                tape.add(v >> 8 * k & 255);
            }
        }
        return tape.size();
    }

    int law(int land, int n) {
        if (!land(land) || !in(n, 1, 160) || n > tape.size()) {
            return -1;
        }
        StringBuilder b = new StringBuilder();
        for (int k = 0; k < n; k++) {
            b.append((char) (int) tape.get(k));
        }
        tape.clear();
        try {
            int found = readLaw(b.toString());
            laws[land] = b.toString();
            clauses[land] = found;
            return found;
        } catch (Fault fault) {
            return fault.code;
        }
    }

    boolean sends(int land, int kind, int to) {
        if (!land(land) || !in(kind, 0, 8) || !in(to, 0, 5)) {
            return false;
        }
        sendTo[land][kind] = to;
        return true;
    }

    int rules(int f, int t, int i, int time) {
        if (!land(f) || !isRow(t, i) || !in(time, 0, 1)) {
            return -1;
        }
        return time == 1 ? walk(f, t).rulesTime[i] : walk(f, t).rules[i];
    }

    int whose(int f, int t) {
        return land(f) && isItem(t) ? walk(f, t).owner : -1;
    }

    int title(int f, int t, int i) {
        return land(f) && isRow(t, i) ? walk(f, t).title[i] : -1;
    }

    int when(int f, int t, int i, int what) {
        if (!land(f) || !isRow(t, i) || !in(what, 0, 1)) {
            return -1;
        }
        return what == 0 ? walk(f, t).since[i] : walk(f, t).made[i];
    }

    int holds(int t) {
        return isItem(t) ? items.get(t).from(items.get(t).rows.size()) : -1;
    }

    int register(int t) {
        return isItem(t) ? items.get(t).registerAhead(items.get(t).rows.size()) : -1;
    }

    private int unsure(Item x) {
        return (int) x.rows.stream().filter(r -> r.low < r.high).count();
    }

    private int ownerBits(int f, Item x, int[] minds, int i) {
        if (i == minds.length) {
            return 1 << walk(f, x, minds, 0).owner;
        }
        int bits = 0;
        for (int m = x.rows.get(i).low; m <= x.rows.get(i).high; m++) {
            minds[i] = m;
            bits |= ownerBits(f, x, minds, i + 1);
        }
        return bits;
    }

    int may(int f, int t) {
        if (!land(f) || !isItem(t) || unsure(items.get(t)) > 8) {
            return -1;
        }
        return ownerBits(f, items.get(t), leastMinds(items.get(t)), 0);
    }

    private boolean hangsOn(int f, Item x, int[] minds, int i, int on) {
        if (i == minds.length) {
            int bits = 0;
            for (int m = x.rows.get(on).low; m <= x.rows.get(on).high; m++) {
                minds[on] = m;
                bits |= 1 << walk(f, x, minds, 0).owner;
            }
            return Integer.bitCount(bits) > 1;
        }
        if (i == on) {
            return hangsOn(f, x, minds, i + 1, on);
        }
        for (int m = x.rows.get(i).low; m <= x.rows.get(i).high; m++) {
            minds[i] = m;
            if (hangsOn(f, x, minds, i + 1, on)) {
                return true;
            }
        }
        return false;
    }

    int hangs(int f, int t) {
        if (!land(f) || !isItem(t) || unsure(items.get(t)) > 8) {
            return -1;
        }
        int bits = 0;
        Item x = items.get(t);
        for (int on = 0; on < x.rows.size(); on++) {
            if (x.rows.get(on).low < x.rows.get(on).high && hangsOn(f, x, leastMinds(x), 0, on)) {
                bits |= 1 << on;
            }
        }
        return bits;
    }

    /** Rows: what is asked, what is given; then one number: what the owner pays. */
    private int[][] claims(int f, Item x) {
        Walk w = walk(f, x, leastMinds(x), 0);
        int n = x.rows.size();
        int[][] found = {new int[20], new int[20], {-2}};
        java.util.Arrays.fill(found[0], -2);
        java.util.Arrays.fill(found[1], -2);
        if (w.owner == x.from(n)) {
            return found;
        }
        found[2][0] = 0;
        if (x.rows.get(n - 1).kind == 0 && w.holdsB[n - 1]) {
            found[2][0] = x.rows.get(n - 1).price;
            return found;
        }
        int[] purse = persons.stream().mapToInt(q -> q[1]).toArray();
        for (int i = n - 1; i >= 0; i--) {
            if (x.rows.get(i).kind != 0 || x.from(i) == w.ownerAhead[i] || !w.holdsA[i]) {
                break;
            }
            found[0][i] = x.rows.get(i).price;
            found[1][i] = Math.min(found[0][i], purse[x.from(i)]);
            purse[x.from(i)] -= found[1][i];
        }
        return found;
    }

    int asked(int f, int t, int i, int what) {
        if (!land(f) || !isRow(t, i) || !in(what, 0, 1)) {
            return -1;
        }
        return claims(f, items.get(t))[what][i];
    }

    int back(int f, int t) {
        return land(f) && isItem(t) ? claims(f, items.get(t))[2][0] : -1;
    }

    int out(int f, int t, int q) {
        if (!land(f) || !isItem(t) || !isMan(q)) {
            return -2000000000;
        }
        Item x = items.get(t);
        int owner = walk(f, t).owner;
        int[][] found = claims(f, x);
        int sum = 0;
        for (int i = 0; i < x.rows.size(); i++) {
            sum += x.rows.get(i).to == q ? x.rows.get(i).price : 0;
            sum -= x.from(i) == q ? x.rows.get(i).price : 0;
            if (found[1][i] > 0) {
                sum -= x.rows.get(i).to == q ? found[1][i] : 0;
                sum += x.from(i) == q ? found[1][i] : 0;
            }
        }
        if (found[2][0] > 0) {
            sum += owner == q ? found[2][0] : 0;
            sum -= holds(t) == q ? found[2][0] : 0;
        }
        sum += x.owner == q ? x.worth : 0;
        sum -= owner == q ? x.worth : 0;
        return sum;
    }

    int joined(int f, int t, int u, int what) {
        if (!land(f) || !isItem(t) || !isItem(u) || t == u || !in(what, 0, 2)) {
            return -1;
        }
        int great = items.get(u).worth > items.get(t).worth ? u : t;
        int small = great == t ? u : t;
        if (what == 0) {
            return whose(f, great);
        }
        if (whose(f, great) == whose(f, small)) {
            return -1;
        }
        return what == 1 ? whose(f, small) : items.get(small).worth;
    }

    boolean road(int a, int b, int cost) {
        if (!land(a) || !land(b) || a == b || !in(cost, 0, 10000)) {
            return false;
        }
        roads[a][b] = cost;
        roads[b][a] = cost;
        return true;
    }

    /** The least cost of all ways that see no land twice; MAX_VALUE if there is none. */
    private int way(int a, int b, int seen) {
        if (a == b) {
            return 0;
        }
        int best = Integer.MAX_VALUE;
        for (int c = 0; c < 6; c++) {
            if (roads[a][c] >= 0 && (seen >> c & 1) == 0) {
                int rest = way(c, b, seen | 1 << c);
                if (rest != Integer.MAX_VALUE) {
                    best = Math.min(best, rest + roads[a][c]);
                }
            }
        }
        return best;
    }

    private boolean canSell(int f, int from, int t, int q, int man) {
        return land(f) && land(from) && isItem(t) && isMan(q) && isMan(man) && items.get(t).rows.size() <= 18
            && q != holds(t) && man != q && man != whose(f, t);
    }

    private boolean sold(int f, int from, int to, int t, int[] men, int set) {
        Item x = items.get(t);
        x.rows.add(new Row(5, men[0], from, now, 0, 0, 0, 0));
        x.rows.add(new Row(0, men[1], to, now, x.worth, 3, 0, 0));
        boolean made = walk(f, x, leastMinds(x), set).owner == men[1];
        x.rows.remove(x.rows.size() - 1);
        x.rows.remove(x.rows.size() - 1);
        return made;
    }

    int cheapest(int f, int from, int t, int q, int man, int what) {
        if (!canSell(f, from, t, q, man) || !in(what, 0, 1)) {
            return -1;
        }
        int best = -2;
        int cost = Integer.MAX_VALUE;
        for (int to = 0; to < 6; to++) {
            int c = way(from, to, 1 << from);
            if (c < cost && sold(f, from, to, t, new int[] {q, man}, 0)) {
                best = to;
                cost = c;
            }
        }
        return best == -2 || what == 0 ? best : cost;
    }

    private boolean stops(int set, int f, int from, int t, int[] men, int money) {
        for (int to = 0; to < 6; to++) {
            if (way(from, to, 1 << from) <= money && sold(f, from, to, t, men, set)) {
                return false;
            }
        }
        for (Item x : items) {
            if (walk(f, x, leastMinds(x), set).owner != walk(f, x, leastMinds(x), 0).owner) {
                return false;
            }
        }
        return true;
    }

    int stopped(int f, int from, int t, int q, int man, int money) {
        if (!canSell(f, from, t, q, man) || !in(money, 0, 100000)) {
            return -1;
        }
        int best = -2;
        for (int set = 63; set >= 0; set--) {
            boolean fewer = best == -2 || Integer.bitCount(set) <= Integer.bitCount(best);
            if (fewer && stops(set, f, from, t, new int[] {q, man}, money)) {
                best = set;
            }
        }
        return best;
    }

    int check(int f, int t, int n) {
        if (!land(f) || !isItem(t) || n < 0 || (long) n * 4 > tape.size()) {
            return -2;
        }
        List<Integer> due = new ArrayList<>();
        Walk w = walk(f, t);
        for (int i = 0; i < items.get(t).rows.size(); i++) {
            due.add(w.title[i]);
        }
        due.add(w.owner);
        int answer = n == due.size() ? -1 : Math.min(n, due.size());
        for (int i = Math.min(n, due.size()) - 1; i >= 0; i--) {
            int number = tape.get(4 * i) << 24 | tape.get(4 * i + 1) << 16 | tape.get(4 * i + 2) << 8 | tape.get(4 * i + 3);
            answer = number != due.get(i) ? i : answer;
        }
        tape.clear();
        return answer;
    }

    int look(int t, int i, int what) {
        if (!isRow(t, i) || !in(what, 0, 8)) {
            return -1;
        }
        Row r = items.get(t).rows.get(i);
        return new int[] {r.kind, r.to, r.land, r.month, r.price, r.signs, r.low, r.high, items.get(t).from(i)}[what];
    }

    int count(int what) {
        if (in(what, 0, 3)) {
            return new int[] {now, persons.size(), items.size(), tape.size()}[what];
        }
        if (isItem(what - 10)) {
            return items.get(what - 10).rows.size();
        }
        if (land(what - 20)) {
            return clauses[what - 20];
        }
        return isMan(what - 30) ? persons.get(what - 30)[1] : -1;
    }
}
