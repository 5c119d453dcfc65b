import java.util.Random;

/** Long runs of calls drawn from fixed seeds: StolenCup has to answer each as PlainCup does. */
public final class RandomRunsTest {
    private static final int RUNS = 400;
    private static final int CALLS = 512;
    private static final int[] ODD = {-1, -2, 6, 12, 20, 600, 1000001, Integer.MAX_VALUE, Integer.MIN_VALUE};

    private static final String[] MINDFUL = {"k=0", "k<2", "k=1", "k=2", "k>0", "d>3*k", "d>9&k=0", "k=c%3", "k<c",
        "m=1&k=0", "!k=0|r=1", "e=1&k<2", "j>k*6", "c>k", "10/k>6", "x>v|k=0"};

    private final Random random;
    private final StolenCup cup = new StolenCup();
    private final PlainCup plain = new PlainCup();
    private final StringBuilder log = new StringBuilder();
    /** 0: anything; 1: laws that look at minds, many of which are unsure; 2: chains of sales; 3: short cases. */
    private final int flavour;
    private int wrong;
    private int unsureLeft = 5;

    private RandomRunsTest(long seed) {
        random = new Random(seed);
        flavour = (int) (seed % 4);
    }

    public static void main(String[] args) {
        int runs = args.length > 0 ? Integer.parseInt(args[0]) : RUNS;
        long first = args.length > 1 ? Long.parseLong(args[1]) : 0;
        int wrong = 0;
        for (long seed = first; seed < first + runs && wrong < 5; seed++) {
            RandomRunsTest run = new RandomRunsTest(seed);
            if (run.flavour == 3) {
                run.shortCase();
            } else {
                run.go();
            }
            if (run.wrong != 0) {
                wrong++;
                System.out.println("seed " + seed + ":\n" + run.log);
            }
        }
        System.out.println(wrong == 0 ? runs + " random runs are as due" : wrong + " random runs are not as due");
        if (wrong != 0) {
            System.exit(1);
        }
    }

    private int below(int n) {
        return random.nextInt(n);
    }

    private int some(int n) {
        return below(60) == 0 ? ODD[below(ODD.length)] : below(Math.max(n, 1));
    }

    private int man() {
        return some(plain.persons.size());
    }

    private int item() {
        return some(plain.items.size());
    }

    private int row(int t) {
        return t >= 0 && t < plain.items.size() ? some(plain.items.get(t).rows.size()) : some(3);
    }

    private void go() {
        int men = 2 + below(5);
        for (int k = 0; k < men; k++) {
            oneOfPersons();
        }
        oneOfThings();
        for (int k = 0; k < 4; k++) {
            oneOfLaws();
        }
        for (int k = log.length() > 0 ? 20 : 0; k < CALLS - 60 && wrong == 0; k++) {
            step(below(100));
        }
    }

    /** One thing is stolen, goes through few hands that may have known, and all is asked of all judges. */
    private void shortCase() {
        int men = 3 + below(4);
        for (int k = 0; k < men; k++) {
            same("person", cup.person(k % 6, 7 * k), plain.person(k % 6, 7 * k));
        }
        same("thing", cup.thing(40, 0, 0), plain.thing(40, 0, 0));
        boolean isOfSales = below(2) == 0;
        for (int land = 0; land < 6; land++) {
            String text = isOfSales ? "a(k<2|m=1);s(k=0&m=1);y(d>" + below(40) + "-9*k);b(n=1&k=0)" : lawText();
            tell(land, text);
            int kind = below(9);
            int to = below(6);
            same("sends(" + land + "," + kind + "," + to + ")", cup.sends(land, kind, to), plain.sends(land, kind, to));
        }
        same("now", cup.now(40), plain.now(40));
        passes(5, 1, 0);
        int rows = 1 + below(6);
        for (int k = 0; k < rows; k++) {
            passes(below(4) == 0 ? below(8) : 0, 1 + below(men - 1), 1 + k * below(7));
        }
        for (int f = 0; f < 6; f++) {
            allQuestions(f, men);
        }
    }

    private void passes(int kind, int to, int month) {
        int land = below(6);
        int price = kind == 0 ? below(30) : 0;
        int signs = below(8);
        int low = below(2);
        int high = 2;
        same("passing(0," + kind + "," + to + "," + land + "," + month + "," + price + "," + signs + "," + low + "," + high + ")",
            cup.passing(0, kind, to, land, month, price, signs, low, high),
            plain.passing(0, kind, to, land, month, price, signs, low, high));
    }

    private void allQuestions(int f, int men) {
        same("may(" + f + ",0)", cup.may(f, 0), plain.may(f, 0));
        same("hangs(" + f + ",0)", cup.hangs(f, 0), plain.hangs(f, 0));
        same("back(" + f + ",0)", cup.back(f, 0), plain.back(f, 0));
        for (int i = 0; i < plain.items.get(0).rows.size(); i++) {
            for (int what = 0; what < 2; what++) {
                String args = f + ",0," + i + "," + what + ")";
                same("asked(" + args, cup.asked(f, 0, i, what), plain.asked(f, 0, i, what));
                same("rules(" + args, cup.rules(f, 0, i, what), plain.rules(f, 0, i, what));
                same("when(" + args, cup.when(f, 0, i, what), plain.when(f, 0, i, what));
            }
        }
        for (int p = 0; p < men; p++) {
            same("out(" + f + ",0," + p + ")", cup.out(f, 0, p), plain.out(f, 0, p));
        }
    }

    private void same(String call, int got, int due) {
        if (wrong == 0) {
            log.append(call).append(" = ").append(due).append('\n');
        }
        if (got != due) {
            wrong++;
            log.append("   but answered ").append(got).append('\n');
        }
    }

    private void same(String call, boolean got, boolean due) {
        same(call, got ? 1 : 0, due ? 1 : 0);
    }

    private void oneOfPersons() {
        int home = some(6);
        int purse = below(2) == 0 ? below(50) : some(1000001);
        same("person(" + home + "," + purse + ")", cup.person(home, purse), plain.person(home, purse));
    }

    private void oneOfThings() {
        int worth = below(2) == 0 ? 1 + below(3) * 50 : some(1000001);
        int owner = man();
        int land = some(6);
        same("thing(" + worth + "," + owner + "," + land + ")", cup.thing(worth, owner, land), plain.thing(worth, owner, land));
    }

    private void step(int dice) {
        if (dice < 3) {
            oneOfPersons();
        } else if (dice < 6) {
            oneOfThings();
        } else if (dice < 10) {
            int month = below(10) == 0 ? some(600) : plain.now + below(12) - 1;
            same("now(" + month + ")", cup.now(month), plain.now(month));
        } else if (dice < 30) {
            oneOfPassings();
        } else if (dice < 34) {
            oneOfLaws();
        } else if (dice < 40) {
            int land = some(6);
            int kind = some(9);
            int to = some(6);
            same("sends(" + land + "," + kind + "," + to + ")", cup.sends(land, kind, to), plain.sends(land, kind, to));
        } else if (dice < 43) {
            oneOfMinds();
        } else if (dice < 47) {
            oneOfChecks();
        } else if (dice < 50) {
            int a = some(6);
            int b = some(6);
            int cost = below(3) == 0 ? some(10001) : below(5);
            same("road(" + a + "," + b + "," + cost + ")", cup.road(a, b, cost), plain.road(a, b, cost));
        } else if (dice < 60) {
            oneOfSales();
        } else {
            oneOfQuestions();
        }
    }

    private void oneOfPassings() {
        int t = item();
        int kind = below(3) == 0 || flavour == 2 && below(6) != 0 ? 0 : some(8);
        int to = man();
        int land = some(6);
        int month = below(4) == 0 ? some(plain.now + 1) : plain.now;
        int price = kind == 0 ? some(below(2) == 0 ? 60 : 1000001) : below(20) == 0 ? 1 : 0;
        int signs = some(8);
        int low = some(3);
        int high = low;
        if (unsureLeft > 0 && (flavour == 1 || below(3) == 0)) {
            high = flavour == 1 ? 2 : some(3);
            unsureLeft--;
        }
        same("passing(" + t + "," + kind + "," + to + "," + land + "," + month + "," + price + "," + signs + "," + low
            + "," + high + ")", cup.passing(t, kind, to, land, month, price, signs, low, high),
            plain.passing(t, kind, to, land, month, price, signs, low, high));
    }

    private void oneOfMinds() {
        int t = item();
        int i = row(t);
        int low = some(3);
        int high = low;
        if (unsureLeft > 0 && below(2) == 0) {
            high = some(3);
            unsureLeft--;
        }
        same("mind(" + t + "," + i + "," + low + "," + high + ")", cup.mind(t, i, low, high), plain.mind(t, i, low, high));
    }

    // ---- laws

    private String number() {
        return below(30) == 0 ? "" + below(10000000) : "" + below(4);
    }

    private String factor(int depth) {
        int dice = below(depth > 3 ? 9 : 11);
        if (dice < 4) {
            return number();
        }
        return dice < 9 ? "" + "kmnrexvdjclho".charAt(below(13)) : "[" + sum(depth + 1) + "]";
    }

    private String term(int depth) {
        String made = factor(depth);
        for (int k = 0; k < 2 && below(7) == 0; k++) {
            made += "*/%".charAt(below(3)) + factor(depth);
        }
        return made;
    }

    private String sum(int depth) {
        String made = term(depth);
        for (int k = 0; k < 2 && below(6) == 0; k++) {
            made += "+-".charAt(below(2)) + term(depth);
        }
        return made;
    }

    private String piece(int depth) {
        int dice = below(depth > 3 ? 8 : 10);
        if (dice == 9) {
            return "!" + piece(depth + 1);
        }
        return dice == 8 ? "(" + cond(depth + 1) + ")" : sum(depth) + "<>=".charAt(below(3)) + sum(depth);
    }

    private String cond(int depth) {
        String made = piece(depth);
        for (int k = 0; k < 3 && below(4) == 0; k++) {
            made += "&|".charAt(below(2)) + piece(depth);
        }
        return made;
    }

    private String clauseText() {
        if (flavour % 2 == 1 && below(4) != 0) {
            return MINDFUL[below(MINDFUL.length)];
        }
        return below(flavour == 2 ? 2 : 4) == 0 ? "1=1" : cond(1);
    }

    private String lawText() {
        StringBuilder made = new StringBuilder();
        int clauses = below(12) == 0 ? 11 + below(4) : 1 + below(6);
        boolean isShort = clauses > 6;
        for (int k = 0; k < clauses; k++) {
            String letters = flavour == 2 ? "aaaaaaaaabsygz" : "sssyyabgwfzyba";
            made.append(k == 0 ? "" : ";").append(letters.charAt(below(14)));
            made.append('(').append(isShort ? "1=1" : clauseText()).append(')');
        }
        if (below(8) == 0) {
            int at = below(made.length());
            String signs = "()[]!&|<>=+-*/%;sgwfzybakmnrexvdjclho0123456789qA ~";
            made.setCharAt(at, below(20) == 0 ? (char) below(256) : signs.charAt(below(signs.length())));
        }
        if (below(10) == 0) {
            made.insert(below(made.length()), "((((((".substring(0, 1 + below(6)));
        }
        return made.toString();
    }

    private void tell(int land, String text) {
        feedText(text);
        int n = Math.min(text.length(), 160);
        same("law(" + land + "," + n + ")", cup.law(land, n), plain.law(land, n));
    }

    private void feedText(String text) {
        for (int at = 0; at < text.length() && at < 200; at += 20) {
            int[] v = new int[5];
            for (int k = 0; k < 20; k++) {
                v[k / 4] = v[k / 4] << 8 | (at + k < text.length() ? text.charAt(at + k) : 0);
            }
            same("feed(" + text + ")", cup.feed(v[0], v[1], v[2], v[3], v[4]), plain.feed(v[0], v[1], v[2], v[3], v[4]));
        }
    }

    private void oneOfLaws() {
        String text = lawText();
        feedText(text);
        int land = some(6);
        int n = below(10) == 0 ? some(200) : Math.min(text.length(), below(30) == 0 ? 200 : 160);
        same("law(" + land + "," + n + ")", cup.law(land, n), plain.law(land, n));
        if (below(4) != 0 && plain.tape.size() > 0) {
            same("law to empty", cup.law(0, 1), plain.law(0, 1));
        }
    }

    private void oneOfChecks() {
        int t = item();
        int f = some(6);
        int due = t >= 0 && t < plain.items.size() ? plain.items.get(t).rows.size() + 1 : 1;
        int spoiled = below(2) == 0 ? below(due + 1) : -1;
        for (int k = 0; k < due + below(6); k += 5) {
            int[] v = new int[5];
            for (int j = 0; j < 5; j++) {
                int right = k + j < due - 1 ? plain.title(f, t, k + j) : plain.whose(f, t);
                v[j] = k + j == spoiled ? some(12) : right;
            }
            same("feed(" + v[0] + "," + v[1] + "..)", cup.feed(v[0], v[1], v[2], v[3], v[4]),
                plain.feed(v[0], v[1], v[2], v[3], v[4]));
        }
        int n = below(3) == 0 ? some(51) : due;
        same("check(" + f + "," + t + "," + n + ")", cup.check(f, t, n), plain.check(f, t, n));
    }

    private void oneOfSales() {
        int f = some(6);
        int from = some(6);
        int t = item();
        int q = man();
        int p = man();
        int what = below(30) == 0 ? 2 : below(2);
        int money = below(2) == 0 ? below(10) : some(100001);
        String args = f + "," + from + "," + t + "," + q + "," + p + ",";
        same("cheapest(" + args + what + ")", cup.cheapest(f, from, t, q, p, what), plain.cheapest(f, from, t, q, p, what));
        if (below(3) == 0) {
            same("stopped(" + args + money + ")", cup.stopped(f, from, t, q, p, money),
                plain.stopped(f, from, t, q, p, money));
        }
    }

    private void oneOfQuestions() {
        int f = some(6);
        int t = item();
        int i = row(t);
        int two = below(30) == 0 ? -1 + 3 * below(2) : below(2);
        int u = item();
        int p = man();
        int what = below(4) == 0 ? some(50) : below(10);
        same("rules(" + f + "," + t + "," + i + "," + two + ")", cup.rules(f, t, i, two), plain.rules(f, t, i, two));
        same("whose(" + f + "," + t + ")", cup.whose(f, t), plain.whose(f, t));
        same("title(" + f + "," + t + "," + i + ")", cup.title(f, t, i), plain.title(f, t, i));
        same("when(" + f + "," + t + "," + i + "," + two + ")", cup.when(f, t, i, two), plain.when(f, t, i, two));
        same("holds(" + t + ")", cup.holds(t), plain.holds(t));
        same("register(" + t + ")", cup.register(t), plain.register(t));
        if (below(flavour == 1 ? 6 : 10) == 0) {
            same("may(" + f + "," + t + ")", cup.may(f, t), plain.may(f, t));
            same("hangs(" + f + "," + t + ")", cup.hangs(f, t), plain.hangs(f, t));
        }
        same("asked(" + f + "," + t + "," + i + "," + two + ")", cup.asked(f, t, i, two), plain.asked(f, t, i, two));
        same("back(" + f + "," + t + ")", cup.back(f, t), plain.back(f, t));
        same("out(" + f + "," + t + "," + p + ")", cup.out(f, t, p), plain.out(f, t, p));
        int three = below(30) == 0 ? 3 : below(3);
        same("joined(" + f + "," + t + "," + u + "," + three + ")", cup.joined(f, t, u, three), plain.joined(f, t, u, three));
        same("look(" + t + "," + i + "," + what + ")", cup.look(t, i, what), plain.look(t, i, what));
        same("count(" + what + ")", cup.count(what), plain.count(what));
    }
}
