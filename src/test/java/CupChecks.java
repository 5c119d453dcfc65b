import java.util.function.IntUnaryOperator;

/** What the tests by hand have in common: how an answer is held against the one due, and cups to begin with. */
abstract class CupChecks {
    static final int SALE = 0;
    static final int GIFT = 1;
    static final int WILL = 2;
    static final int PAWN = 3;
    static final int LENT = 4;
    static final int STOLEN = 5;
    static final int FOUND = 6;
    static final int SEIZED = 7;
    static final int TIME = 8;
    static final int NO_SUM = -2000000000;

    private static int wrong;
    private static String where = "";

    /** What comes next is a test of this sentence of the document. */
    static void begin(String sentence) {
        where = sentence;
    }

    static void due(String what, int got, int want) {
        if (got != want) {
            wrong++;
            System.out.println(where + ": " + what + " answered " + got + ", due is " + want);
        }
    }

    static void due(String what, boolean got, boolean want) {
        due(what, got ? 1 : 0, want ? 1 : 0);
    }

    static void due(String what, String got, String want) {
        if (!got.equals(want)) {
            wrong++;
            System.out.println(where + ": " + what + " shows\n  " + got + "\ndue is\n  " + want);
        }
    }

    /** Tells how it went, and ends the program with exit code 1 if an answer was wrong. */
    static void end(String praise) {
        System.out.println(wrong == 0 ? praise : wrong + " answers are not as due");
        if (wrong != 0) {
            System.exit(1);
        }
    }

    /** Whether the least and the greatest value are taken and those beside them are refused, as are the ends of int. */
    static void edges(String what, int least, int greatest, int refused, IntUnaryOperator call) {
        taken(what, least, refused, call);
        taken(what, greatest, refused, call);
        for (int value : new int[] {least - 1, greatest + 1, Integer.MIN_VALUE, Integer.MAX_VALUE}) {
            due(what + " " + value + " is refused", call.applyAsInt(value), refused);
        }
    }

    private static void taken(String what, int value, int refused, IntUnaryOperator call) {
        due(what + " " + value + " is taken", call.applyAsInt(value) != refused, true);
    }

    static int bit(boolean answer) {
        return answer ? 1 : 0;
    }

    /** Persons 0 to n - 1, at home in lands 0 to 5 and round again, each with a purse of 100. */
    static StolenCup withPersons(int n) {
        StolenCup cup = new StolenCup();
        for (int k = 0; k < n; k++) {
            cup.person(k % 6, 100);
        }
        return cup;
    }

    /** Six persons, month 100, thing 0 of worth 50, which is person 0's and lies in land 0. */
    static StolenCup withCup() {
        StolenCup cup = withPersons(6);
        cup.thing(50, 0, 0);
        cup.now(100);
        return cup;
    }

    static void feedText(StolenCup cup, String text) {
        for (int at = 0; at < text.length(); at += 20) {
            int[] v = new int[5];
            for (int k = 0; k < 20; k++) {
                v[k / 4] = v[k / 4] << 8 | (at + k < text.length() ? text.charAt(at + k) : 0);
            }
            cup.feed(v[0], v[1], v[2], v[3], v[4]);
        }
    }

    static int tell(StolenCup cup, int land, String text) {
        feedText(cup, text);
        return cup.law(land, text.length());
    }

    /** What a law is answered by an object that was told nothing else. */
    static int told(String text) {
        return tell(new StolenCup(), 0, text);
    }

    static String times(int n, String text) {
        return text.repeat(n);
    }

    static int give(StolenCup cup, int kind, int to, int land, int month) {
        return cup.passing(0, kind, to, land, month, 0, 0, 0, 0);
    }

    static int sell(StolenCup cup, int to, int land, int month, int price) {
        return cup.passing(0, SALE, to, land, month, price, 0, 0, 0);
    }

    /** Whether a condition holds for a sale at a price of 30 that follows a theft. */
    static boolean isHolding(String condition) {
        StolenCup cup = withCup();
        tell(cup, 0, "s(" + condition + ")");
        give(cup, STOLEN, 1, 0, 10);
        sell(cup, 2, 0, 12, 30);
        return cup.whose(0, 0) == 2;
    }

    static void dueHolds(String condition, boolean want) {
        due(condition, isHolding(condition), want);
    }
}
