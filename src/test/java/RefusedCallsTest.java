import java.util.function.Consumer;
import java.util.function.ToIntFunction;

/**
 * A call that is refused (NONE, false) changes nothing but the tape, where it is told; nor does a question. Each
 * such call is made on an object of its own, of which then all is looked at that can be seen.
 */
public final class RefusedCallsTest extends CupChecks {
    private static final String ON_TAPE = "s(1=1);y(d>3)";
    private static final int[] FAR = {Integer.MIN_VALUE, Integer.MAX_VALUE};

    public static void main(String[] args) {
        allCanBeSeen();
        refusedNow();
        refusedPersonsAndThings();
        refusedPassings();
        refusedMinds();
        refusedFeed();
        refusedLaws();
        refusedSendingsAndRoads();
        refusedQuestions();
        refusedSales();
        refusedWhenFull();
        questions();
        faultsEmptyTheTapeAlone();
        checksEmptyTheTapeAlone();
        end("refused calls change nothing");
    }

    /** Five persons, two things, a passing of each kind, laws, sendings, roads, and a law on the tape. */
    private static StolenCup court() {
        StolenCup cup = new StolenCup();
        for (int p = 0; p < 5; p++) {
            cup.person(5 - p, 10 * p);
        }
        cup.thing(50, 0, 4);
        cup.thing(60, 1, 3);
        tell(cup, 0, "g(k=0);a(1=1)");
        tell(cup, 1, "y(d=3);s(x>5);b(1=1)");
        tell(cup, 2, "s(k<2);f(k=0)");
        for (int kind = 0; kind <= TIME; kind++) {
            cup.sends(4, kind, 0);
            cup.sends(5, kind, kind % 6);
        }
        cup.road(0, 1, 3);
        cup.road(1, 2, 4);
        cup.road(2, 4, 9);
        cup.now(60);
        for (int kind = 0; kind < 8; kind++) {
            cup.passing(0, kind, 1 + kind % 3, kind % 3, 5 * kind, kind == SALE ? 30 : 0, kind % 8, 0, kind % 3);
        }
        cup.passing(1, STOLEN, 0, 1, 50, 0, 0, 2, 2);
        cup.passing(1, SALE, 3, 1, 52, 4, 5, 0, 1);
        feedText(cup, ON_TAPE);
        return cup;
    }

    /** All that can be seen of an object; the tape is seen last, by making a law of it. */
    private static String seen(StolenCup cup) {
        StringBuilder all = new StringBuilder(seenRows(cup));
        for (int t = 0; t < 2; t++) {
            all.append("\njudges of ").append(t);
            for (int i = 0; i < cup.count(10 + t); i++) {
                for (int f = 0; f < 6; f++) {
                    all.append(' ').append(cup.rules(f, t, i, 0)).append('/').append(cup.rules(f, t, i, 1));
                }
            }
            for (int f = 0; f < 6; f++) {
                all.append(' ').append(cup.whose(f, t)).append('/').append(cup.may(f, t)).append('/').append(cup.hangs(f, t));
            }
            all.append(' ').append(cup.back(1, t)).append('/').append(cup.out(1, t, 1));
        }
        all.append("\nroads");
        for (int from = 0; from < 6; from++) {
            all.append(' ').append(cup.cheapest(2, from, 0, 4, 0, 0)).append('/').append(cup.cheapest(2, from, 0, 4, 0, 1));
        }
        all.append("\nthe tape as a law: ").append(cup.law(3, ON_TAPE.length())).append(' ').append(cup.count(23));
        return all.toString();
    }

    /** What was told of persons, things and passings, and how much of the rest. */
    private static String seenRows(StolenCup cup) {
        StringBuilder all = new StringBuilder();
        for (int what = 0; what < 42; what++) {
            all.append(cup.count(what)).append(what % 10 == 9 ? "\n" : " ");
        }
        for (int t = 0; t < 2; t++) {
            all.append("\nthing ").append(t).append(": ").append(cup.holds(t)).append(' ').append(cup.register(t));
            for (int i = 0; i < cup.count(10 + t); i++) {
                all.append("\n ");
                for (int what = 0; what <= 8; what++) {
                    all.append(' ').append(cup.look(t, i, what));
                }
            }
        }
        return all.toString();
    }

    private static void unchanged(String what, int answer, ToIntFunction<StolenCup> call) {
        StolenCup cup = court();
        due(what, call.applyAsInt(cup), answer);
        due(what, seen(cup), seen(court()));
    }

    private static void changed(String what, Consumer<StolenCup> call) {
        StolenCup cup = court();
        call.accept(cup);
        due(what + " is seen", seen(cup).equals(seen(court())), false);
    }

    /** What is not refused is seen, so that what is would be. */
    private static void allCanBeSeen() {
        begin("what a call that is not refused changes is seen");
        changed("now", cup -> cup.now(61));
        changed("person", cup -> cup.person(0, 0));
        changed("thing", cup -> cup.thing(1, 0, 0));
        changed("passing", cup -> cup.passing(1, GIFT, 0, 0, 60, 0, 0, 0, 0));
        changed("mind", cup -> cup.mind(1, 1, 1, 1));
        changed("feed", cup -> cup.feed(0, 0, 0, 0, 0));
        changed("law", cup -> cup.law(5, 6));
        changed("a fault", cup -> cup.law(5, 7));
        changed("check", cup -> cup.check(0, 0, 0));
        changed("road", cup -> cup.road(0, 1, 4));
        for (int kind = 0; kind <= TIME; kind++) {
            int sent = kind;
            changed("sends for " + kind, cup -> cup.sends(3, sent, 0));
        }
    }

    private static void refusedNow() {
        begin("2: false: no such one, it is past");
        for (int month : new int[] {-1, 0, 59, 600, FAR[0], FAR[1]}) {
            unchanged("now(" + month + ")", 0, cup -> bit(cup.now(month)));
        }
    }

    private static void refusedPersonsAndThings() {
        begin("3, 4: NONE: no such ones");
        for (int odd : new int[] {-1, 6, FAR[0], FAR[1]}) {
            unchanged("home " + odd, -1, cup -> cup.person(odd, 1));
            unchanged("owner " + odd, -1, cup -> cup.thing(1, odd, 0));
            unchanged("land " + odd, -1, cup -> cup.thing(1, 0, odd));
        }
        for (int odd : new int[] {-1, 1000001, FAR[0], FAR[1]}) {
            unchanged("purse " + odd, -1, cup -> cup.person(0, odd));
            unchanged("worth " + odd, -1, cup -> cup.thing(odd, 0, 0));
        }
        unchanged("owner 5", -1, cup -> cup.thing(1, 5, 0));
        unchanged("worth 0", -1, cup -> cup.thing(0, 0, 0));
    }

    private static void refusedPassings() {
        begin("5: NONE: no such ones");
        int[] right = {1, SALE, 0, 2, 52, 7, 3, 0, 2};
        int[][] odd = {{-1, 2}, {-1, 8}, {-1, 5}, {-1, 6}, {-1, 61}, {-1, 1000001}, {-1, 8}, {-1, 3}, {-1, 3}};
        due("the right one is taken", passed(court(), right), 2);
        for (int k = 0; k < 9; k++) {
            for (int value : new int[] {odd[k][0], odd[k][1], FAR[0], FAR[1]}) {
                int[] args = right.clone();
                args[k] = value;
                unchanged("passing, place " + k + " is " + value, -1, cup -> passed(cup, args));
            }
        }
        unchanged("least above greatest", -1, cup -> cup.passing(1, SALE, 0, 2, 52, 7, 3, 2, 1));
        unchanged("a price of a gift", -1, cup -> cup.passing(1, GIFT, 0, 2, 52, 7, 3, 0, 0));
        unchanged("to him who holds it", -1, cup -> cup.passing(1, SALE, 3, 2, 60, 7, 3, 0, 0));
        unchanged("to him who held it then", -1, cup -> cup.passing(1, SALE, 0, 2, 51, 7, 3, 0, 0));
        unchanged("to the first owner", -1, cup -> cup.passing(1, SALE, 1, 2, 0, 7, 3, 0, 0));
        unchanged("from and to one for the one behind it", -1, cup -> cup.passing(1, SALE, 3, 2, 51, 7, 3, 0, 0));
        unchanged("so for the first", -1, cup -> cup.passing(1, SALE, 0, 2, 49, 7, 3, 0, 0));
    }

    private static int passed(StolenCup cup, int[] a) {
        return cup.passing(a[0], a[1], a[2], a[3], a[4], a[5], a[6], a[7], a[8]);
    }

    private static void refusedMinds() {
        begin("6: false: no such ones");
        for (int odd : new int[] {-1, 2, FAR[0], FAR[1]}) {
            unchanged("thing " + odd, 0, cup -> bit(cup.mind(odd, 0, 1, 1)));
            unchanged("passing " + odd, 0, cup -> bit(cup.mind(1, odd, 1, 1)));
        }
        for (int odd : new int[] {-1, 3, FAR[0], FAR[1]}) {
            unchanged("least " + odd, 0, cup -> bit(cup.mind(1, 1, odd, 2)));
            unchanged("greatest " + odd, 0, cup -> bit(cup.mind(1, 1, 0, odd)));
            unchanged("both " + odd, 0, cup -> bit(cup.mind(1, 1, odd, odd)));
        }
        unchanged("least above greatest", 0, cup -> bit(cup.mind(1, 1, 2, 1)));
        unchanged("least above greatest", 0, cup -> bit(cup.mind(1, 1, 1, 0)));
    }

    private static void refusedFeed() {
        begin("7: NONE if that would be more than 200");
        StolenCup full = court();
        StolenCup fuller = court();
        for (int k = 2; k <= 10; k++) {
            due("feed", full.feed(k, 0, 0, 0, k), 20 * k);
            fuller.feed(k, 0, 0, 0, k);
        }
        due("refused", fuller.feed(-1, -1, -1, -1, -1), -1);
        due("refused", seen(fuller), seen(full));
    }

    private static void refusedLaws() {
        begin("8: NONE: no such ones, it has not so many (the tape stays)");
        for (int odd : new int[] {-1, 6, FAR[0], FAR[1]}) {
            unchanged("land " + odd, -1, cup -> cup.law(odd, 13));
        }
        for (int odd : new int[] {-1, 0, 21, 160, 161, FAR[0], FAR[1]}) {
            unchanged("n " + odd, -1, cup -> cup.law(0, odd));
        }
    }

    private static void refusedSendingsAndRoads() {
        begin("9, 22: false: no such ones");
        for (int odd : new int[] {-1, 6, FAR[0], FAR[1]}) {
            unchanged("sends, land " + odd, 0, cup -> bit(cup.sends(odd, 0, 0)));
            unchanged("sends, to " + odd, 0, cup -> bit(cup.sends(0, 0, odd)));
            unchanged("road, a " + odd, 0, cup -> bit(cup.road(odd, 0, 1)));
            unchanged("road, b " + odd, 0, cup -> bit(cup.road(0, odd, 1)));
        }
        for (int odd : new int[] {-1, 9, FAR[0], FAR[1]}) {
            unchanged("sends, kind " + odd, 0, cup -> bit(cup.sends(0, odd, 0)));
        }
        for (int odd : new int[] {-1, 10001, FAR[0], FAR[1]}) {
            unchanged("road, cost " + odd, 0, cup -> bit(cup.road(0, 1, odd)));
        }
        for (int land = 0; land < 6; land++) {
            int twice = land;
            unchanged("road from " + land + " to itself", 0, cup -> bit(cup.road(twice, twice, 1)));
        }
    }

    private static void refusedQuestions() {
        begin("10 to 21, 25 to 27: NONE: no such ones");
        for (int odd : new int[] {-1, 6, FAR[0], FAR[1]}) {
            unchanged("rules by " + odd, -1, cup -> cup.rules(odd, 0, 0, 0));
            unchanged("whose by " + odd, -1, cup -> cup.whose(odd, 0));
            unchanged("title by " + odd, -1, cup -> cup.title(odd, 0, 0));
            unchanged("when by " + odd, -1, cup -> cup.when(odd, 0, 0, 1));
            unchanged("may by " + odd, -1, cup -> cup.may(odd, 0));
            unchanged("hangs by " + odd, -1, cup -> cup.hangs(odd, 0));
            unchanged("asked by " + odd, -1, cup -> cup.asked(odd, 0, 0, 0));
            unchanged("back by " + odd, -1, cup -> cup.back(odd, 0));
            unchanged("out by " + odd, NO_SUM, cup -> cup.out(odd, 0, 0));
            unchanged("joined by " + odd, -1, cup -> cup.joined(odd, 0, 1, 0));
            unchanged("check by " + odd, -2, cup -> cup.check(odd, 0, 1));
        }
        for (int odd : new int[] {-1, 2, FAR[0], FAR[1]}) {
            unchanged("holds of " + odd, -1, cup -> cup.holds(odd));
            unchanged("register of " + odd, -1, cup -> cup.register(odd));
            unchanged("look at " + odd, -1, cup -> cup.look(odd, 0, 0));
            unchanged("look at passing " + odd, -1, cup -> cup.look(1, odd, 0));
            unchanged("check of " + odd, -2, cup -> cup.check(0, odd, 1));
            unchanged("out of thing " + odd, NO_SUM, cup -> cup.out(0, odd, 0));
        }
        for (int odd : new int[] {-1, 6, FAR[0], FAR[1]}) {
            unchanged("check by so many: " + odd, -2, cup -> cup.check(0, 0, odd));
        }
    }

    private static void refusedSales() {
        begin("23, 24: NONE: no such ones");
        int[] right = {2, 0, 0, 4, 0};
        int[][] odd = {{-1, 6}, {-1, 6}, {-1, 2}, {-1, 5, 2, 0}, {-1, 5, 4}};
        for (int k = 0; k < 5; k++) {
            for (int value : odd[k]) {
                int[] a = right.clone();
                a[k] = value;
                String what = "place " + k + " is " + value;
                unchanged("cheapest, " + what, -1, cup -> cup.cheapest(a[0], a[1], a[2], a[3], a[4], 0));
                unchanged("stopped, " + what, -1, cup -> cup.stopped(a[0], a[1], a[2], a[3], a[4], 9));
            }
        }
        for (int value : new int[] {-1, 2, FAR[0], FAR[1]}) {
            unchanged("cheapest, what " + value, -1, cup -> cup.cheapest(2, 0, 0, 4, 0, value));
        }
        for (int value : new int[] {-1, 100001, FAR[0], FAR[1]}) {
            unchanged("stopped, money " + value, -1, cup -> cup.stopped(2, 0, 0, 4, 0, value));
        }
    }

    private static void refusedWhenFull() {
        begin("3, 4, 5: NONE: 12, 4, 20 are there");
        StolenCup full = filled();
        StolenCup fuller = filled();
        due("a 13th person", fuller.person(1, 1), -1);
        due("a fifth thing", fuller.thing(1, 1, 1), -1);
        due("a 21st passing", fuller.passing(1, GIFT, 2, 1, 60, 0, 0, 0, 0), -1);
        due("a 21st passing, ahead", fuller.passing(1, GIFT, 2, 1, 0, 0, 0, 0, 0), -1);
        due("full", seenRows(fuller), seenRows(full));
    }

    private static StolenCup filled() {
        StolenCup cup = court();
        for (int p = 5; p < 12; p++) {
            cup.person(1, p);
        }
        for (int t = 2; t < 4; t++) {
            cup.thing(t, t, t);
        }
        for (int k = 2; k < 20; k++) {
            cup.passing(1, LENT, 4 + k % 2, 1, 60, 0, 0, 0, 0);
        }
        return cup;
    }

    private static void questions() {
        begin("10 to 24, 26, 27: a question changes nothing");
        String due = seen(court());
        StolenCup cup = court();
        for (int f = 0; f < 6; f++) {
            for (int t = 0; t < 2; t++) {
                cup.title(f, t, 1);
                cup.when(f, t, 1, 0);
                cup.asked(f, t, 1, 1);
                cup.back(f, t);
                cup.out(f, t, 3);
                cup.joined(f, t, 1 - t, 2);
            }
            cup.stopped(f, 0, 0, 4, 3, 9);
            cup.stopped(f, 0, 0, 4, 0, 9);
        }
        due("questions", seen(cup), due);
    }

    private static void faultsEmptyTheTapeAlone() {
        begin("8: a FAULT (the law before stays), the tape is empty then");
        for (int land = 0; land < 6; land++) {
            StolenCup cup = court();
            StolenCup other = court();
            due("a fault", cup.law(land, 7), -1007);
            other.check(0, 0, 0);
            due("only the tape", seen(cup), seen(other));
        }
    }

    private static void checksEmptyTheTapeAlone() {
        begin("25: by the first n numbers of the tape (empty then)");
        StolenCup cup = court();
        due("bytes", cup.count(3), 20);
        due("not so", cup.check(0, 0, 5), 0);
        StolenCup other = court();
        other.law(3, 1);
        due("only the tape", seen(cup), seen(other));
    }
}
