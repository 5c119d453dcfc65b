/** The bounds of what is told to the court: months, persons, things, passings, minds, the tape, sendings, roads. */
public final class EdgesOfTellingTest extends CupChecks {
    public static void main(String[] args) {
        nothingIsThereAtFirst();
        noLawsAndNoRoadsAtFirst();
        objectsShareNothing();
        objectsAreUsedFor512Calls();
        months();
        nowNeverGoesBack();
        homesAndPurses();
        twelvePersons();
        worthOwnerAndLand();
        ownersAreThereAlready();
        fourThings();
        theFirstOwnerHoldsIt();
        argumentsOfPassing();
        monthsOfPassing();
        pricesOfSales();
        pricesOfOtherKinds();
        mindsOfPassing();
        twentyPassings();
        twentyPassingsAndOneBetween();
        numbersByMonths();
        likeMonthsAsTheyWereTold();
        numberedAnew();
        toHimWhoHoldsItThen();
        fromAndToOneForTheOneBehind();
        fromWhom();
        mindOfWhichPassing();
        mindFromLeastToGreatest();
        feedUpTo200();
        feedHighestByteFirst();
        lawOfWhichLand();
        lawOfHowManyBytes();
        lawEmptiesTheTape();
        lawThatIsRefusedKeepsTheTape();
        sendsWhat();
        sendsKindByKind();
        roadsBetweenWhom();
        roadsOfWhatCost();
        lookAtWhat();
        countOfWhat();
        end("the bounds of telling are kept");
    }

    // ---- promise 1

    private static void nothingIsThereAtFirst() {
        begin("1: MONTH 0; no PERSONS, THINGS");
        StolenCup cup = new StolenCup();
        for (int what = 0; what <= 3; what++) {
            due("count(" + what + ")", cup.count(what), 0);
        }
        for (int k = 0; k < 12; k++) {
            due("purse of " + k, cup.count(30 + k), -1);
        }
        for (int t = 0; t < 4; t++) {
            due("passings of " + t, cup.count(10 + t), -1);
            due("holds(" + t + ")", cup.holds(t), -1);
            due("register(" + t + ")", cup.register(t), -1);
            due("whose(0, " + t + ")", cup.whose(0, t), -1);
            due("may(0, " + t + ")", cup.may(0, t), -1);
            due("hangs(0, " + t + ")", cup.hangs(0, t), -1);
            due("back(0, " + t + ")", cup.back(0, t), -1);
            due("out(0, " + t + ", 0)", cup.out(0, t, 0), NO_SUM);
            due("check(0, " + t + ", 0)", cup.check(0, t, 0), -2);
            due("cheapest", cup.cheapest(0, 0, t, 0, 1, 0), -1);
            due("stopped", cup.stopped(0, 0, t, 0, 1, 0), -1);
            due("passing", cup.passing(t, GIFT, 0, 0, 0, 0, 0, 0, 0), -1);
            due("mind", cup.mind(t, 0, 0, 0), false);
        }
    }

    private static void noLawsAndNoRoadsAtFirst() {
        begin("1: no LAWS, ROADS");
        StolenCup cup = withCup();
        for (int land = 0; land < 6; land++) {
            due("clauses of " + land, cup.count(20 + land), 0);
            give(cup, STOLEN, 1 + land % 2, land, land);
        }
        cup.now(599);
        for (int land = 0; land < 6; land++) {
            due("no clause gives it", cup.whose(land, 0), 0);
        }
        for (int from = 0; from < 6; from++) {
            cup = withCup();
            for (int land = 0; land < 6; land++) {
                tell(cup, land, land == from ? "a(1=1)" : "s(1=1)");
            }
            due("no road from " + from, cup.cheapest(0, from, 0, 1, 2, 0), -2);
        }
    }

    private static void objectsShareNothing() {
        begin("1: MONTH 0; no PERSONS, THINGS, LAWS, ROADS, whatever another object was told");
        StolenCup cup = withCup();
        tell(cup, 0, "s(1=1)");
        give(cup, STOLEN, 1, 0, 10);
        cup.feed(0, 0, 0, 0, 0);
        StolenCup other = new StolenCup();
        due("now", other.count(0), 0);
        due("persons", other.count(1), 0);
        due("things", other.count(2), 0);
        due("bytes", other.count(3), 0);
        due("clauses", other.count(20), 0);
        other.person(3, 7);
        due("persons of the first", cup.count(1), 6);
        due("purse of the first", cup.count(30), 100);
    }

    private static void objectsAreUsedFor512Calls() {
        begin("An object is used for at most 512 calls after it has been made");
        StolenCup cup = withCup();
        tell(cup, 0, "s(1=1)");
        give(cup, STOLEN, 1, 0, 10);
        sell(cup, 2, 0, 12, 30);
        for (int call = 13; call <= 511; call++) {
            due("call " + call, cup.whose(0, 0), 2);
        }
        due("call 512", cup.count(0), 100);
    }

    // ---- promise 2

    private static void months() {
        begin("MONTHS 0 to 599");
        edges("now", 0, 599, 0, v -> bit(new StolenCup().now(v)));
        StolenCup cup = new StolenCup();
        cup.now(599);
        due("the last", cup.count(0), 599);
        due("the last again", cup.now(599), true);
        due("behind the last", cup.now(600), false);
        due("NOW stays", cup.count(0), 599);
    }

    private static void nowNeverGoesBack() {
        begin("NOW is one of them (0 at first), never back");
        StolenCup cup = new StolenCup();
        due("0 at first", cup.count(0), 0);
        due("to where it is", cup.now(0), true);
        cup.now(300);
        due("one back", cup.now(299), false);
        due("all the way back", cup.now(0), false);
        due("NOW stays", cup.count(0), 300);
        due("to where it is", cup.now(300), true);
        due("one on", cup.now(301), true);
        due("NOW", cup.count(0), 301);
    }

    // ---- promise 3

    private static void homesAndPurses() {
        begin("PERSONS: a HOME (a LAND), a PURSE (0 to 1000000)");
        edges("home", 0, 5, -1, v -> new StolenCup().person(v, 0));
        edges("purse", 0, 1000000, -1, v -> new StolenCup().person(0, v));
        StolenCup cup = new StolenCup();
        cup.person(0, 0);
        cup.person(0, 1000000);
        due("an empty purse", cup.count(30), 0);
        due("a full one", cup.count(31), 1000000);
    }

    private static void twelvePersons() {
        begin("PERSONS 0 to 11; NONE: 12 are there");
        StolenCup cup = new StolenCup();
        for (int k = 0; k < 12; k++) {
            due("a refused one has no number", cup.person(6, 0), -1);
            due("the number", cup.person(k % 6, k), k);
            due("how many", cup.count(1), k + 1);
        }
        due("a 13th", cup.person(0, 0), -1);
        due("how many", cup.count(1), 12);
        for (int k = 0; k < 12; k++) {
            due("purse of " + k, cup.count(30 + k), k);
        }
        due("no purse of a 13th", cup.count(42), -1);
    }

    // ---- promise 4

    private static void worthOwnerAndLand() {
        begin("THINGS: WORTH (1 to 1000000), the first OWNER, the LAND where it lies at first");
        edges("worth", 1, 1000000, -1, v -> withPersons(3).thing(v, 0, 0));
        edges("owner of three", 0, 2, -1, v -> withPersons(3).thing(1, v, 0));
        edges("owner of twelve", 0, 11, -1, v -> withPersons(12).thing(1, v, 0));
        edges("land", 0, 5, -1, v -> withPersons(3).thing(1, 0, v));
    }

    private static void ownersAreThereAlready() {
        begin("4: NONE: no such ones");
        StolenCup cup = new StolenCup();
        due("nobody is there", cup.thing(1, 0, 0), -1);
        cup.person(0, 0);
        due("one is", cup.thing(1, 0, 0), 0);
        due("the next is not yet", cup.thing(1, 1, 0), -1);
        due("things", cup.count(2), 1);
    }

    private static void fourThings() {
        begin("THINGS 0 to 3; NONE: 4 are there");
        StolenCup cup = withPersons(4);
        for (int t = 0; t < 4; t++) {
            due("a refused one has no number", cup.thing(0, 0, 0), -1);
            due("the number", cup.thing(1, t, 0), t);
            due("how many", cup.count(2), t + 1);
            due("nothing of the next", cup.holds(t + 1), -1);
        }
        due("a fifth", cup.thing(1, 0, 0), -1);
        due("how many", cup.count(2), 4);
        due("no passings of a fifth", cup.count(14), -1);
        for (int t = 0; t < 4; t++) {
            due("the owner of " + t, cup.whose(0, t), t);
        }
    }

    private static void theFirstOwnerHoldsIt() {
        begin("the first OWNER (who HOLDS it, too)");
        StolenCup cup = withPersons(12);
        cup.thing(1, 11, 5);
        due("holds", cup.holds(0), 11);
        due("whose", cup.whose(3, 0), 11);
        due("register", cup.register(0), 11);
        due("may", cup.may(3, 0), 1 << 11);
        due("no passings", cup.count(10), 0);
    }

    // ---- promise 5

    private static void argumentsOfPassing() {
        begin("5: NONE: no such ones");
        edges("thing", 0, 0, -1, v -> withCup().passing(v, GIFT, 1, 0, 0, 0, 0, 0, 0));
        edges("kind", 0, 7, -1, v -> withCup().passing(0, v, 1, 0, 0, 0, 0, 0, 0));
        // Person 0 holds it, so that 1 is the first to whom it can go.
        edges("to", 1, 5, -1, v -> withCup().passing(0, GIFT, v, 0, 0, 0, 0, 0, 0));
        edges("land", 0, 5, -1, v -> withCup().passing(0, GIFT, 1, v, 0, 0, 0, 0, 0));
        edges("signs", 0, 7, -1, v -> withCup().passing(0, GIFT, 1, 0, 0, 0, v, 0, 0));
        StolenCup cup = withPersons(12);
        for (int t = 0; t < 4; t++) {
            cup.thing(1, 11, 0);
        }
        due("the last thing, to the first person", cup.passing(3, GIFT, 0, 0, 0, 0, 0, 0, 0), 0);
        due("to the last person", cup.passing(3, GIFT, 11, 0, 0, 0, 0, 0, 0), 1);
        due("to a person behind the last", cup.passing(3, GIFT, 12, 0, 0, 0, 0, 0, 0), -1);
        due("of a thing behind the last", cup.passing(4, GIFT, 0, 0, 0, 0, 0, 0, 0), -1);
    }

    private static void monthsOfPassing() {
        begin("PASSINGS, numbered by MONTHS (NOW at most)");
        edges("month", 0, 100, -1, v -> withCup().passing(0, GIFT, 1, 0, v, 0, 0, 0, 0));
        StolenCup cup = withPersons(2);
        cup.thing(1, 0, 0);
        due("a month that is not yet", give(cup, GIFT, 1, 0, 1), -1);
        due("the first month", give(cup, GIFT, 1, 0, 0), 0);
        cup.now(599);
        due("the last month", give(cup, GIFT, 0, 0, 599), 1);
        due("behind the last", give(cup, GIFT, 1, 0, 600), -1);
    }

    private static void pricesOfSales() {
        begin("at what PRICE (0 to 1000000; of a SALE)");
        edges("price", 0, 1000000, -1, v -> withCup().passing(0, SALE, 1, 0, 0, v, 0, 0, 0));
        StolenCup cup = withCup();
        sell(cup, 1, 0, 0, 0);
        sell(cup, 2, 0, 0, 1000000);
        due("the least", cup.look(0, 0, 4), 0);
        due("the greatest", cup.look(0, 1, 4), 1000000);
    }

    private static void pricesOfOtherKinds() {
        begin("5: NONE: a PRICE of a KIND that is no SALE, too");
        for (int kind = GIFT; kind <= SEIZED; kind++) {
            int other = kind;
            edges("price of kind " + kind, 0, 0, -1, v -> withCup().passing(0, other, 1, 0, 0, v, 0, 0, 0));
        }
    }

    private static void mindsOfPassing() {
        begin("MIND: from least to greatest of what he knew (0 nothing, 1 he might have known, 2 he knew)");
        for (int low = -1; low <= 3; low++) {
            for (int high = -1; high <= 3; high++) {
                boolean right = 0 <= low && low <= high && high <= 2;
                StolenCup cup = withCup();
                due("mind " + low + " to " + high, cup.passing(0, GIFT, 1, 0, 0, 0, 0, low, high), right ? 0 : -1);
                due("count", cup.count(10), bit(right));
            }
        }
        edges("least", 0, 2, -1, v -> withCup().passing(0, GIFT, 1, 0, 0, 0, 0, v, 2));
        edges("greatest", 0, 2, -1, v -> withCup().passing(0, GIFT, 1, 0, 0, 0, 0, 0, v));
    }

    private static void twentyPassings() {
        begin("PASSINGS of a THING (20 at most); NONE: 20 are there");
        StolenCup cup = withCup();
        cup.thing(1, 0, 0);
        for (int k = 0; k < 20; k++) {
            due("the number", give(cup, LENT, (k + 1) % 2, 0, 100), k);
            due("how many", cup.count(10), k + 1);
        }
        due("a 21st", give(cup, LENT, 1, 0, 100), -1);
        due("how many", cup.count(10), 20);
        due("who holds it", cup.holds(0), 0);
        due("nothing behind the last", cup.look(0, 20, 0), -1);
        due("another thing has its own", cup.passing(1, LENT, 1, 0, 100, 0, 0, 0, 0), 0);
    }

    private static void twentyPassingsAndOneBetween() {
        begin("5: NONE: 20 are there, wherever it would stand");
        StolenCup cup = withCup();
        for (int k = 0; k < 19; k++) {
            give(cup, LENT, (k + 1) % 2, 0, 50);
        }
        due("the 20th, ahead of all", give(cup, LENT, 2, 1, 49), 0);
        due("a 21st, ahead of all", give(cup, LENT, 3, 2, 0), -1);
        due("a 21st, in between", give(cup, LENT, 3, 2, 49), -1);
        due("a 21st, behind all", give(cup, LENT, 3, 2, 100), -1);
        due("the first", cup.look(0, 0, 1), 2);
        due("the last", cup.look(0, 19, 1), 1);
        due("how many", cup.count(10), 20);
    }

    private static void numbersByMonths() {
        begin("PASSINGS, numbered from 0 by MONTHS");
        StolenCup cup = withCup();
        due("the first", give(cup, LENT, 1, 0, 50), 0);
        due("a month behind it", give(cup, LENT, 2, 0, 51), 1);
        due("a month ahead of it", give(cup, LENT, 3, 0, 49), 0);
        due("the first month", give(cup, LENT, 4, 0, 0), 0);
        due("the last month", give(cup, LENT, 5, 0, 100), 4);
        int[] months = {0, 49, 50, 51, 100};
        for (int i = 0; i < 5; i++) {
            due("month of " + i, cup.look(0, i, 3), months[i]);
        }
    }

    private static void likeMonthsAsTheyWereTold() {
        begin("numbered from 0 by MONTHS (of like ones as they were told)");
        StolenCup cup = withCup();
        give(cup, LENT, 1, 0, 50);
        due("one ahead", give(cup, LENT, 2, 0, 40), 0);
        due("another in the month of that", give(cup, LENT, 3, 0, 40), 1);
        due("another in the month of the last", give(cup, LENT, 4, 0, 50), 3);
        due("a third in the first month", give(cup, LENT, 5, 0, 40), 2);
        int[] to = {2, 3, 5, 1, 4};
        for (int i = 0; i < 5; i++) {
            due("to whom " + i, cup.look(0, i, 1), to[i]);
        }
    }

    private static void numberedAnew() {
        begin("One told later with an earlier MONTH stands where it belongs: those behind it are numbered anew");
        StolenCup cup = withCup();
        cup.passing(0, SALE, 1, 3, 50, 77, 5, 1, 2);
        cup.passing(0, PAWN, 2, 4, 60, 0, 2, 0, 1);
        due("it stands ahead", give(cup, STOLEN, 5, 1, 49), 0);
        int[] sale = {SALE, 1, 3, 50, 77, 5, 1, 2, 5};
        int[] pawn = {PAWN, 2, 4, 60, 0, 2, 0, 1, 1};
        for (int what = 0; what <= 8; what++) {
            due("look at the second, " + what, cup.look(0, 1, what), sale[what]);
            due("look at the third, " + what, cup.look(0, 2, what), pawn[what]);
        }
        due("mind goes by the new number", cup.mind(0, 2, 2, 2), true);
        due("the third's", cup.look(0, 2, 6), 2);
        due("the second's stays", cup.look(0, 1, 6), 1);
    }

    private static void toHimWhoHoldsItThen() {
        begin("FROM whom: who HOLDS it then; a PASSING to him is none");
        StolenCup cup = withCup();
        due("to the first owner", give(cup, LENT, 0, 0, 0), -1);
        give(cup, LENT, 1, 0, 50);
        give(cup, LENT, 2, 0, 60);
        due("to the last", give(cup, LENT, 2, 0, 60), -1);
        due("to him who held it then", give(cup, LENT, 1, 0, 59), -1);
        due("in the month in which he took it", give(cup, LENT, 1, 0, 50), -1);
        due("to the first owner, ahead of all", give(cup, LENT, 0, 0, 49), -1);
        due("none were taken", cup.count(10), 2);
        due("to him who holds it no more", give(cup, LENT, 1, 0, 60), 2);
    }

    private static void fromAndToOneForTheOneBehind() {
        begin("5: NONE: it would be FROM and TO one PERSON for the one behind it");
        StolenCup cup = withCup();
        give(cup, LENT, 1, 0, 50);
        give(cup, LENT, 2, 0, 60);
        due("ahead of the first, to 1", give(cup, LENT, 1, 0, 49), -1);
        due("ahead of the second, to 2", give(cup, LENT, 2, 0, 59), -1);
        due("in the month of the first, to 2", give(cup, LENT, 2, 0, 50), -1);
        due("none were taken", cup.count(10), 2);
        due("in the month of the second: nothing is behind it", give(cup, LENT, 1, 0, 60), 2);
        due("to another than the one behind", give(cup, LENT, 0, 0, 59), 1);
        due("from", cup.look(0, 2, 8), 0);
    }

    private static void fromWhom() {
        begin("FROM whom: the first OWNER, then him TO whom the one before was");
        StolenCup cup = withCup();
        give(cup, STOLEN, 4, 0, 10);
        give(cup, GIFT, 3, 0, 20);
        due("the first owner", cup.look(0, 0, 8), 0);
        due("then the thief", cup.look(0, 1, 8), 4);
        due("he to whom it was holds it", cup.holds(0), 3);
    }

    // ---- promise 6

    private static void mindOfWhichPassing() {
        begin("6: MIND of PASSING i of THING t; false: no such ones");
        edges("thing", 0, 0, 0, v -> bit(withTwoPassings().mind(v, 0, 0, 0)));
        edges("passing", 0, 1, 0, v -> bit(withTwoPassings().mind(0, v, 0, 0)));
        StolenCup cup = withCup();
        due("no passing yet", cup.mind(0, 0, 0, 0), false);
        for (int k = 0; k < 20; k++) {
            give(cup, LENT, (k + 1) % 2, 0, 0);
        }
        due("the last of twenty", cup.mind(0, 19, 0, 2), true);
        due("it is so", cup.look(0, 19, 7), 2);
        due("behind the last", cup.mind(0, 20, 0, 2), false);
    }

    private static StolenCup withTwoPassings() {
        StolenCup cup = withCup();
        give(cup, LENT, 1, 0, 10);
        give(cup, LENT, 2, 0, 20);
        return cup;
    }

    private static void mindFromLeastToGreatest() {
        begin("6: true; false: no such ones (MIND 0 to 2, from least to greatest)");
        for (int low = -1; low <= 3; low++) {
            for (int high = -1; high <= 3; high++) {
                StolenCup cup = withCup();
                cup.passing(0, GIFT, 1, 0, 0, 0, 0, 1, 2);
                boolean right = 0 <= low && low <= high && high <= 2;
                due("mind " + low + " to " + high, cup.mind(0, 0, low, high), right);
                due("least", cup.look(0, 0, 6), right ? low : 1);
                due("greatest", cup.look(0, 0, 7), right ? high : 2);
            }
        }
        edges("least", 0, 2, 0, v -> bit(withTwoPassings().mind(0, 0, v, 2)));
        edges("greatest", 0, 2, 0, v -> bit(withTwoPassings().mind(0, 0, 0, v)));
    }

    // ---- promises 7 and 8

    private static void feedUpTo200() {
        begin("7: how many it has; NONE if that would be more than 200");
        StolenCup cup = new StolenCup();
        for (int k = 1; k <= 10; k++) {
            due("feed " + k, cup.feed(0, 0, 0, 0, 0), 20 * k);
            due("count", cup.count(3), 20 * k);
        }
        due("feed 11", cup.feed(1, 2, 3, 4, 5), -1);
        due("count", cup.count(3), 200);
        due("feed 12", cup.feed(1, 2, 3, 4, 5), -1);
        cup.law(0, 1);
        due("empty again", cup.count(3), 0);
        due("feed", cup.feed(0, 0, 0, 0, 0), 20);
    }

    private static void feedHighestByteFirst() {
        begin("7: Twenty bytes come behind the tape, the highest of each int first");
        StolenCup cup = withPersons(1);
        cup.thing(1, 0, 0);
        for (int number : new int[] {0x01000000, 0x00010000, 0x00000100, 0x00000001, 0x80000000, -1}) {
            cup.feed(number, 0, 0, 0, 0);
            due("not 0: " + number, cup.check(0, 0, 1), 0);
        }
        cup.feed(0, 0, 0, 0, 0);
        due("0", cup.check(0, 0, 1), -1);
        cup.feed(0x73283D31, 0, 0, 0, 0);
        due("s ( = 1", cup.law(0, 4), -1002);
        cup.feed(0x0028313D, 0x73000000, 0, 0, 0);
        due("0 ( 1 = s", cup.law(0, 5), -1000);
        feedText(cup, "s(1=1);s(1=1);s(1=1)");
        feedText(cup, ";s(1=1);s(1=1);s(1=)");
        due("all forty, in their order", cup.law(0, 40), -1039);
    }

    private static void lawOfWhichLand() {
        begin("8: THE LAW of a LAND; NONE: no such ones");
        edges("land", 0, 5, -1, v -> {
            StolenCup cup = new StolenCup();
            feedText(cup, "s(1=1)");
            return cup.law(v, 6);
        });
        for (int land = 0; land < 6; land++) {
            StolenCup cup = new StolenCup();
            tell(cup, land, "s(1=1)");
            for (int other = 0; other < 6; other++) {
                due("clauses of " + other, cup.count(20 + other), bit(other == land));
            }
        }
    }

    private static void lawOfHowManyBytes() {
        begin("8: by the first n bytes of the tape (1 to 160); NONE: it has not so many");
        edges("n of a full tape", 1, 160, -1, v -> withFullTape().law(0, v));
        edges("n of twenty bytes", 1, 20, -1, v -> {
            StolenCup cup = new StolenCup();
            feedText(cup, "s(1=1)");
            return cup.law(0, v);
        });
        due("an empty tape", new StolenCup().law(0, 1), -1);
        due("160 bytes", withFullTape().law(0, 160), 1);
        due("159 bytes", withFullTape().law(0, 159), -1159);
    }

    /** 160 bytes that are a law of one clause, and forty behind them. */
    private static StolenCup withFullTape() {
        StolenCup cup = new StolenCup();
        feedText(cup, "s(" + times(77, "1+") + "1=1)" + times(40, "q"));
        return cup;
    }

    private static void lawEmptiesTheTape() {
        begin("8: by the first n bytes of the tape (empty then), in place of the one before; a FAULT: the law before stays");
        StolenCup cup = withFullTape();
        due("a law", cup.law(3, 160), 1);
        due("the bytes behind it are gone, too", cup.count(3), 0);
        due("two in its place", tell(cup, 3, "s(1=1);g(1=1)"), 2);
        due("count", cup.count(23), 2);
        feedText(cup, "y(1=1);y(1=1);y(1=1);y");
        due("a fault", cup.law(3, 22), -1022);
        due("the tape is empty", cup.count(3), 0);
        due("the law before stays", cup.count(23), 2);
        due("one in its place", tell(cup, 3, "s(1=1)"), 1);
        due("count", cup.count(23), 1);
    }

    private static void lawThatIsRefusedKeepsTheTape() {
        begin("8: NONE: no such ones, it has not so many (the tape stays)");
        StolenCup cup = new StolenCup();
        feedText(cup, "s(1=1);g(1=1)");
        for (int land : new int[] {-1, 6}) {
            due("land " + land, cup.law(land, 6), -1);
        }
        for (int n : new int[] {Integer.MIN_VALUE, -1, 0, 21, 161, Integer.MAX_VALUE}) {
            due("n " + n, cup.law(0, n), -1);
        }
        due("count", cup.count(3), 20);
        due("it is there yet", cup.law(0, 13), 2);
    }

    // ---- promises 9 and 22

    private static void sendsWhat() {
        begin("9: A LAND SENDS for a KIND (0 to 8) to (0 to 5); false: no such ones");
        edges("land", 0, 5, 0, v -> bit(new StolenCup().sends(v, 0, 0)));
        edges("kind", 0, 8, 0, v -> bit(new StolenCup().sends(0, v, 0)));
        edges("to", 0, 5, 0, v -> bit(new StolenCup().sends(0, 0, v)));
    }

    private static void sendsKindByKind() {
        begin("each LAND SENDS, KIND by KIND, to: 1 the LAND of the PASSING (at first)");
        for (int land = 0; land < 6; land++) {
            for (int sent = 0; sent <= TIME; sent++) {
                StolenCup cup = withPersons(3);
                cup.thing(1, 0, 0);
                for (int kind = 0; kind < 8; kind++) {
                    give(cup, kind, 1 + kind % 2, (land + 1) % 6, 0);
                }
                cup.sends(land, sent, 0);
                for (int kind = 0; kind < 8; kind++) {
                    int right = kind == sent ? land : (land + 1) % 6;
                    due("land " + land + ", told for " + sent + ", asked for " + kind, cup.rules(land, 0, kind, 0), right);
                }
                due("asked for time", cup.rules(land, 0, 7, 1), sent == TIME ? land : (land + 1) % 6);
                due("another land", cup.rules((land + 2) % 6, 0, 0, 0), (land + 1) % 6);
            }
        }
    }

    private static void roadsBetweenWhom() {
        begin("22: A ROAD: true; false: no such ones, one LAND twice");
        edges("a", 1, 5, 0, v -> bit(new StolenCup().road(v, 0, 1)));
        edges("b", 1, 5, 0, v -> bit(new StolenCup().road(0, v, 1)));
        edges("a", 0, 4, 0, v -> bit(new StolenCup().road(v, 5, 1)));
        edges("b", 0, 4, 0, v -> bit(new StolenCup().road(5, v, 1)));
        for (int a = 0; a < 6; a++) {
            for (int b = 0; b < 6; b++) {
                due("road from " + a + " to " + b, new StolenCup().road(a, b, 1), a != b);
            }
        }
    }

    private static void roadsOfWhatCost() {
        begin("ROADS between two LANDS: COST (0 to 10000; none at first)");
        edges("cost", 0, 10000, 0, v -> bit(new StolenCup().road(0, 1, v)));
        StolenCup cup = withCup();
        tell(cup, 1, "s(1=1)");
        due("none at first", cup.cheapest(0, 0, 0, 1, 2, 1), -2);
        cup.road(1, 0, 10000);
        due("the dearest", cup.cheapest(0, 0, 0, 1, 2, 1), 10000);
        cup.road(0, 1, 10001);
        cup.road(0, 1, -1);
        due("a refused one leaves it", cup.cheapest(0, 0, 0, 1, 2, 1), 10000);
        cup.road(0, 1, 0);
        due("for nothing", cup.cheapest(0, 0, 0, 1, 2, 1), 0);
    }

    // ---- promises 26 and 27

    private static void lookAtWhat() {
        begin("26: Of PASSING i of THING t, what 0 to 8. NONE for others");
        edges("thing", 0, 0, -1, v -> withTwoPassings().look(v, 0, 0));
        edges("passing", 0, 1, -1, v -> withTwoPassings().look(0, v, 0));
        edges("what", 0, 8, -1, v -> withTwoPassings().look(0, 0, v));
        due("no passing yet", withCup().look(0, 0, 0), -1);
        due("nor from whom", withCup().look(0, 0, 8), -1);
    }

    private static void countOfWhat() {
        begin("27: 0 NOW, 1 PERSONS, 2 THINGS, 3 bytes of the tape; 10 + t, 20 + l, 30 + p. NONE for others");
        StolenCup full = withPersons(12);
        for (int t = 0; t < 4; t++) {
            full.thing(1, 0, 0);
        }
        full.now(599);
        full.feed(0, 0, 0, 0, 0);
        StolenCup some = withPersons(2);
        some.thing(1, 0, 0);
        for (int what = -40; what <= 80; what++) {
            due("full, " + what, full.count(what), countOfFull(what));
            due("some, " + what, some.count(what), countOfSome(what));
        }
        due("the least int", full.count(Integer.MIN_VALUE), -1);
        due("the greatest int", full.count(Integer.MAX_VALUE), -1);
    }

    private static int countOfFull(int what) {
        if (what >= 0 && what <= 3) {
            return new int[] {599, 12, 4, 20}[what];
        }
        if (what >= 10 && what <= 13 || what >= 20 && what <= 25) {
            return 0;
        }
        return what >= 30 && what <= 41 ? 100 : -1;
    }

    private static int countOfSome(int what) {
        if (what >= 0 && what <= 3) {
            return new int[] {0, 2, 1, 0}[what];
        }
        if (what == 10 || what >= 20 && what <= 25) {
            return 0;
        }
        return what == 30 || what == 31 ? 100 : -1;
    }
}
