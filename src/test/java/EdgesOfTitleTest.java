/** The bounds of what judges say: which law is asked, whose it is, from when on, and what hangs on minds. */
public final class EdgesOfTitleTest extends CupChecks {
    public static void main(String[] args) {
        rulesOfWhat();
        theLandAheadOfTheFirst();
        ownerThen();
        sixLandsOneBehindTheOther();
        ringsWithAndWithoutF();
        inARingOwnLaw();
        ringForTime();
        whoseOfWhat();
        titleOfWhat();
        titleIsAheadOfTime();
        fromTheOwnerHimself();
        foundAndSeizedFromTheOwner();
        fromAnotherOne();
        backToTheOwner();
        leavingAnew();
        whenOfWhat();
        whenByPassing();
        notInTheMonthInWhichHeTookIt();
        toTheMonthOfTheNextPassing();
        toNow();
        noTimeBetweenLikeMonths();
        theFirstMonthThatHolds();
        onlyWhileAnotherHoldsIt();
        timeByThatPassing();
        leastMinds();
        holdsOfWhat();
        registerOfWhat();
        registerByPutIntoIt();
        mayOfWhat();
        mayBeAllPersons();
        eightMinds();
        eightMindsOfTwentyPassings();
        hangsOfWhat();
        hangsOnTheFirstAndTheLast();
        hangsByOthers();
        hangsNotOnSureOnes();
        mayFromTheOwner();
        mindsAndTime();
        mindsOfTimeThatStandApart();
        hangsIfOneOfTheOthersMindsLetsIt();
        hangsNotIfAllOfTheOthersMindsLevelIt();
        hangsOfTwoThingsInTurn();
        end("the bounds of title are kept");
    }

    /** Stolen by 1 in month 10, given to 2 in month 20; time gives it to whoever held it for five months. */
    private static StolenCup withTheft() {
        StolenCup cup = withCup();
        tell(cup, 0, "y(d=5)");
        give(cup, STOLEN, 1, 0, 10);
        give(cup, STOLEN, 2, 0, 20);
        return cup;
    }

    // ---- promise 10

    private static void rulesOfWhat() {
        begin("10: The LAND whose law is asked by a judge of F for PASSING i of THING t (time behind it: 1); NONE: no such ones");
        edges("f", 0, 5, -1, v -> withTheft().rules(v, 0, 0, 0));
        edges("thing", 0, 0, -1, v -> withTheft().rules(0, v, 0, 0));
        edges("passing", 0, 1, -1, v -> withTheft().rules(0, 0, v, 0));
        edges("time", 0, 1, -1, v -> withTheft().rules(0, 0, 0, v));
        due("no passing yet", withCup().rules(0, 0, 0, 0), -1);
        due("no time yet", withCup().rules(0, 0, 0, 1), -1);
    }

    private static void theLandAheadOfTheFirst() {
        begin("2 the LAND where it lay ahead of it; 5 the LAND where the THING lay at first");
        StolenCup cup = withPersons(3);
        cup.thing(1, 0, 4);
        give(cup, STOLEN, 1, 2, 0);
        give(cup, STOLEN, 2, 3, 0);
        for (int land = 2; land < 6; land++) {
            cup.sends(land, STOLEN, 0);
        }
        cup.sends(0, STOLEN, 2);
        cup.sends(1, STOLEN, 5);
        due("ahead of the first", cup.rules(0, 0, 0, 0), 4);
        due("ahead of the second", cup.rules(0, 0, 1, 0), 2);
        due("at first, by the first", cup.rules(1, 0, 0, 0), 4);
        due("at first, by the second", cup.rules(1, 0, 1, 0), 4);
    }

    private static void ownerThen() {
        begin("4 HOME of the OWNER then");
        StolenCup cup = withPersons(6);
        cup.thing(1, 1, 0);
        cup.now(100);
        for (int kind = 0; kind <= TIME; kind++) {
            cup.sends(0, kind, 4);
            for (int land = 1; land < 6; land++) {
                cup.sends(land, kind, 0);
            }
        }
        tell(cup, 2, "y(d=10)");
        give(cup, GIFT, 2, 0, 0);
        give(cup, STOLEN, 3, 0, 10);
        give(cup, STOLEN, 4, 0, 19);
        give(cup, STOLEN, 5, 0, 29);
        int[] homes = {1, 2, 2, 4};
        int[] homesForTime = {2, 2, 2, 4};
        for (int i = 0; i < 4; i++) {
            due("of passing " + i, cup.rules(0, 0, i, 0), homes[i]);
            due("of time behind " + i, cup.rules(0, 0, i, 1), homesForTime[i]);
        }
    }

    /** Passing 1 is in land 1, ahead of it the thing lay in 2; the taker's home is 3, the owner's 4; at first it lay in 5. */
    private static StolenCup withRow() {
        StolenCup cup = new StolenCup();
        cup.person(4, 0);
        cup.person(0, 0);
        cup.person(3, 0);
        cup.thing(1, 0, 5);
        give(cup, STOLEN, 1, 2, 0);
        give(cup, GIFT, 2, 1, 0);
        for (int land = 0; land < 5; land++) {
            cup.sends(land, GIFT, land + 1);
        }
        return cup;
    }

    private static void sixLandsOneBehindTheOther() {
        begin("From F on: a LAND that sends to itself rules; else the one to which it sends is asked");
        StolenCup cup = withRow();
        cup.sends(5, GIFT, 0);
        for (int f = 0; f < 6; f++) {
            due("from " + f + " to the last", cup.rules(f, 0, 1, 0), 5);
        }
        cup.sends(5, GIFT, 5);
        due("the last sends to where it lay at first, which is itself", cup.rules(0, 0, 1, 0), 5);
        tell(cup, 5, "g(1=1)");
        due("by its law", cup.whose(0, 0), 2);
    }

    private static void ringsWithAndWithoutF() {
        begin("one that was asked already: A RING");
        for (int to = 1; to <= 4; to++) {
            StolenCup cup = withRow();
            cup.sends(5, GIFT, to);
            for (int f = 0; f < 6; f++) {
                due("from " + f + ", land 5 sends to " + to, cup.rules(f, 0, 1, 0), -2);
            }
        }
        StolenCup two = withRow();
        two.sends(1, GIFT, 2);
        two.sends(2, GIFT, 1);
        due("a ring of two", two.rules(1, 0, 1, 0), -2);
        due("a ring of two", two.rules(2, 0, 1, 0), -2);
        due("into it", two.rules(0, 0, 1, 0), -2);
        two.sends(5, GIFT, 0);
        due("outside it", two.rules(3, 0, 1, 0), 5);
    }

    private static void inARingOwnLaw() {
        begin("A RING: F's own law is asked then");
        for (int f = 0; f < 6; f++) {
            StolenCup cup = withRow();
            cup.sends(5, GIFT, 1);
            tell(cup, f, "g(1=1)");
            for (int judge = 0; judge < 6; judge++) {
                due("law of " + f + ", judge of " + judge, cup.whose(judge, 0), judge == f ? 2 : 0);
            }
        }
    }

    private static void ringForTime() {
        begin("10: time behind it: -2: A RING (F's own law)");
        StolenCup cup = withPersons(3);
        cup.thing(1, 0, 0);
        cup.now(9);
        give(cup, STOLEN, 1, 2, 0);
        cup.sends(2, TIME, 3);
        due("2 sends to 1, that back to 2", cup.rules(2, 0, 0, 1), -2);
        due("not for the kind", cup.rules(2, 0, 0, 0), 2);
        tell(cup, 2, "y(1=1)");
        due("its own law", cup.whose(2, 0), 1);
        due("not another's", cup.whose(1, 0), 0);
    }

    // ---- promises 11 and 12

    private static void whoseOfWhat() {
        begin("11: WHOSE THING t is NOW; NONE: no such ones");
        edges("f", 0, 5, -1, v -> withTheft().whose(v, 0));
        edges("thing of one", 0, 0, -1, v -> withTheft().whose(0, v));
        edges("thing of four", 0, 3, -1, v -> withFourThings().whose(0, v));
    }

    private static StolenCup withFourThings() {
        StolenCup cup = withTheft();
        cup.thing(1, 3, 0);
        cup.thing(1, 4, 0);
        cup.thing(1, 5, 0);
        return cup;
    }

    private static void titleOfWhat() {
        begin("12: TITLE behind PASSING i; NONE: no such ones");
        edges("f", 0, 5, -1, v -> withTheft().title(v, 0, 0));
        edges("thing", 0, 0, -1, v -> withTheft().title(0, v, 0));
        edges("passing", 0, 1, -1, v -> withTheft().title(0, 0, v));
        due("no passing yet", withCup().title(0, 0, 0), -1);
    }

    private static void titleIsAheadOfTime() {
        begin("TITLE behind PASSING i: the OWNER as it is then, ahead of TIME behind it; at last, NOW");
        StolenCup cup = withTheft();
        due("behind the first", cup.title(0, 0, 0), 0);
        due("behind the second", cup.title(0, 0, 1), 1);
        due("now", cup.whose(0, 0), 2);
    }

    private static void fromTheOwnerHimself() {
        begin("from the OWNER himself by SALE, GIFT, LEFT: TO whom is the OWNER; by other KINDS he stays so");
        for (int kind = 0; kind < 8; kind++) {
            StolenCup cup = withCup();
            give(cup, kind, 1, 0, 10);
            due("kind " + kind, cup.title(0, 0, 0), bit(kind <= WILL));
            tell(cup, 0, "s(1=0);g(1=0);w(1=0)");
            due("kind " + kind + ", whatever s, g, w say", cup.title(0, 0, 0), bit(kind <= WILL));
        }
    }

    private static void foundAndSeizedFromTheOwner() {
        begin("by FOUND, SEIZED TO whom is the OWNER if a CLAUSE of f, z holds (e 0, j 0, c 1)");
        String[] others = {"", "", "", "s(1=1);z(1=1)", "f(1=1);z(1=1)", "f(1=1);z(1=1)", "z(1=1)", "f(1=1)"};
        for (int kind = PAWN; kind <= SEIZED; kind++) {
            StolenCup cup = withCup();
            give(cup, LENT, 1, 0, 10);
            give(cup, LENT, 0, 0, 20);
            give(cup, kind, 2, 0, 30);
            tell(cup, 0, "f(e=0&j=0&c=1);z(e=0&j=0&c=1)");
            due("kind " + kind, cup.title(0, 0, 2), kind >= FOUND ? 2 : 0);
            tell(cup, 0, "f(!(e=0&j=0&c=1));z(!(e=0&j=0&c=1))");
            due("kind " + kind + ", it holds not", cup.title(0, 0, 2), 0);
            tell(cup, 0, others[kind]);
            due("kind " + kind + " by " + others[kind], cup.title(0, 0, 2), 0);
        }
    }

    private static void fromAnotherOne() {
        begin("From another one: c is one more; TO whom is the OWNER, if a CLAUSE of its letter holds; "
            + "else, and by PAWN, LENT, STOLEN, the OWNER stays");
        String letters = "sgw---fz";
        for (int kind = 0; kind < 8; kind++) {
            StolenCup cup = withCup();
            give(cup, STOLEN, 1, 0, 10);
            give(cup, kind, 2, 0, 20);
            due("without a law, kind " + kind, cup.title(0, 0, 1), 0);
            tell(cup, 0, "s(c=2);g(c=2);w(c=2);f(c=2);z(c=2)");
            boolean gives = letters.charAt(kind) != '-';
            due("c is 2, kind " + kind, cup.title(0, 0, 1), gives ? 2 : 0);
            due("so by the passing", cup.when(0, 0, 1, 1), bit(gives));
        }
    }

    private static void backToTheOwner() {
        begin("3: the OWNER stays. TO whom HOLDS it then: if that is the OWNER, it is in his hands again");
        for (int kind = 0; kind < 8; kind++) {
            StolenCup cup = withCup();
            give(cup, STOLEN, 1, 0, 10);
            give(cup, kind, 0, 0, 10);
            due("his, without a clause, kind " + kind, cup.title(0, 0, 1), 0);
            due("he holds it", cup.back(0, 0), -2);
            give(cup, GIFT, 2, 0, 20);
            due("and gives it", cup.whose(0, 0), 2);
        }
    }

    private static void leavingAnew() {
        begin("it leaves his hands (that is where e, j, c begin: c is 1)");
        StolenCup cup = withCup();
        give(cup, LENT, 1, 0, 10);
        give(cup, STOLEN, 0, 0, 20);
        give(cup, STOLEN, 2, 0, 30);
        sell(cup, 3, 0, 37, 1);
        tell(cup, 0, "s(e=0&j=7&c=2)");
        due("it came back and left again", cup.whose(0, 0), 3);
        cup = withCup();
        give(cup, STOLEN, 1, 0, 10);
        give(cup, GIFT, 2, 0, 20);
        give(cup, LENT, 3, 0, 30);
        sell(cup, 4, 0, 38, 1);
        tell(cup, 0, "g(c=2);s(e=1&j=8&c=2)");
        due("it left the new owner", cup.whose(0, 0), 4);
    }

    // ---- promise 13

    private static void whenOfWhat() {
        begin("13: Of TITLE behind PASSING i, what 0, 1. NONE for others");
        edges("f", 0, 5, -1, v -> withTheft().when(v, 0, 0, 1));
        edges("thing", 0, 0, -1, v -> withTheft().when(0, v, 0, 0));
        edges("passing", 0, 1, -1, v -> withTheft().when(0, 0, v, 0));
        edges("what", 0, 1, -1, v -> withTheft().when(0, 0, 0, v));
        due("no passing yet", withCup().when(0, 0, 0, 0), -1);
        due("no passing yet", withCup().when(0, 0, 0, 1), -1);
    }

    private static void whenByPassing() {
        begin("13: 1 whether that PASSING made him the OWNER (1, 0)");
        StolenCup cup = withCup();
        tell(cup, 0, "g(1=1)");
        give(cup, STOLEN, 1, 0, 10);
        give(cup, GIFT, 0, 0, 11);
        give(cup, GIFT, 2, 0, 12);
        give(cup, STOLEN, 3, 0, 13);
        give(cup, GIFT, 4, 0, 14);
        int[] made = {0, 0, 1, 0, 1};
        for (int i = 0; i < 5; i++) {
            due("by passing " + i, cup.when(0, 0, i, 1), made[i]);
            due("not by time", cup.when(0, 0, i, 0), -1);
        }
    }

    private static void notInTheMonthInWhichHeTookIt() {
        begin("TIME: in each MONTH behind that in which he took it");
        StolenCup cup = withCup();
        give(cup, STOLEN, 1, 0, 100);
        tell(cup, 0, "y(1=1)");
        due("not in that month", cup.whose(0, 0), 0);
        due("not in that month", cup.when(0, 0, 0, 0), -1);
        cup.now(101);
        due("in the next", cup.whose(0, 0), 1);
        due("in the next", cup.when(0, 0, 0, 0), 101);
    }

    private static void toTheMonthOfTheNextPassing() {
        begin("TIME: up to that of the next PASSING (that one, too, ahead of it)");
        for (int held = 9; held <= 11; held++) {
            StolenCup cup = withCup();
            tell(cup, 0, "y(d=" + held + "&c=1)");
            give(cup, STOLEN, 1, 0, 10);
            give(cup, STOLEN, 2, 0, 20);
            due("d=" + held, cup.when(0, 0, 0, 0), held <= 10 ? 10 + held : -1);
            due("d=" + held + ", whose ahead of it", cup.title(0, 0, 1), bit(held <= 10));
        }
    }

    private static void toNow() {
        begin("TIME: or to NOW");
        for (int now = 108; now <= 112; now++) {
            StolenCup cup = withCup();
            tell(cup, 0, "y(d=10)");
            give(cup, STOLEN, 1, 0, 100);
            cup.now(now);
            due("now " + now, cup.whose(0, 0), bit(now >= 110));
            due("now " + now, cup.when(0, 0, 0, 0), now >= 110 ? 110 : -1);
            due("back", cup.back(0, 0), now >= 110 ? -2 : 0);
        }
        StolenCup cup = withCup();
        tell(cup, 0, "y(d=499)");
        give(cup, STOLEN, 1, 0, 100);
        cup.now(599);
        due("in the last month", cup.when(0, 0, 0, 0), 599);
    }

    private static void noTimeBetweenLikeMonths() {
        begin("TIME: no MONTH is behind that in which he took it and not behind that of the next PASSING");
        StolenCup cup = withCup();
        tell(cup, 0, "y(1=1)");
        give(cup, STOLEN, 1, 0, 50);
        give(cup, STOLEN, 2, 0, 50);
        due("none between", cup.when(0, 0, 0, 0), -1);
        due("the owner stays", cup.title(0, 0, 1), 0);
        due("then the second", cup.when(0, 0, 1, 0), 51);
    }

    private static void theFirstMonthThatHolds() {
        begin("TIME: he is the OWNER from that MONTH on");
        StolenCup cup = withCup();
        tell(cup, 0, "y(d%7=0);y(d=12);y(d>20)");
        give(cup, STOLEN, 1, 0, 10);
        due("the first", cup.when(0, 0, 0, 0), 17);
        tell(cup, 0, "y(d=3);s(1=0)");
        sell(cup, 2, 0, 13, 5);
        due("in the month in which he sells it", cup.when(0, 0, 0, 0), 13);
        due("so it is his to sell", cup.when(0, 0, 1, 1), 1);
        due("whose", cup.whose(0, 0), 2);
    }

    private static void onlyWhileAnotherHoldsIt() {
        begin("TIME: as long as another one than the OWNER HOLDS it");
        StolenCup cup = withCup();
        tell(cup, 0, "y(1=1)");
        give(cup, GIFT, 1, 0, 10);
        due("the owner holds it", cup.when(0, 0, 0, 0), -1);
        give(cup, STOLEN, 2, 0, 20);
        give(cup, STOLEN, 1, 0, 20);
        due("it came back", cup.when(0, 0, 2, 0), -1);
        give(cup, PAWN, 3, 0, 30);
        due("who has it pawned", cup.when(0, 0, 3, 0), 31);
        give(cup, LENT, 4, 0, 40);
        due("who has it lent", cup.when(0, 0, 4, 0), 41);
    }

    private static void timeByThatPassing() {
        begin("TIME: letters of the PASSING by which he took it; the OWNER, e, j (to that MONTH), c as they stand; the law for 8");
        StolenCup cup = withCup();
        give(cup, LENT, 1, 2, 10);
        cup.passing(0, SALE, 5, 3, 14, 1000000, 3, 2, 2);
        tell(cup, 3, "y(k=2&m=1&n=1&r=0&e=1&x=1000*1000&v=50&d=6&j=10&c=2&l=3&h=5&o=0)");
        due("all letters", cup.when(0, 0, 1, 0), 20);
        cup.sends(0, SALE, 0);
        due("the law for a sale is not asked", cup.when(0, 0, 1, 0), 20);
        cup.sends(0, TIME, 0);
        due("the law for 8 is", cup.when(0, 0, 1, 0), -1);
    }

    private static void leastMinds() {
        begin("Least MINDS are taken where none are told");
        StolenCup cup = withCup();
        tell(cup, 0, "s(k=1)");
        give(cup, STOLEN, 1, 0, 10);
        sell(cup, 2, 0, 20, 9);
        for (int low = 0; low <= 2; low++) {
            for (int high = low; high <= 2; high++) {
                cup.mind(0, 1, low, high);
                due("whose, " + low + " to " + high, cup.whose(0, 0), low == 1 ? 2 : 0);
                due("title", cup.title(0, 0, 1), low == 1 ? 2 : 0);
                due("when", cup.when(0, 0, 1, 1), bit(low == 1));
                due("back", cup.back(0, 0), low == 1 ? -2 : 0);
                due("out", cup.out(0, 0, 0), low == 1 ? 50 : 0);
            }
        }
    }

    // ---- promises 14 and 15

    private static void holdsOfWhat() {
        begin("14: Who HOLDS THING t NOW; NONE: no such one");
        edges("thing of one", 0, 0, -1, v -> withTheft().holds(v));
        edges("thing of four", 0, 3, -1, v -> withFourThings().holds(v));
        StolenCup cup = withCup();
        for (int k = 0; k < 20; k++) {
            give(cup, LENT, (k + 1) % 6, 0, 100);
            due("behind passing " + k, cup.holds(0), (k + 1) % 6);
        }
    }

    private static void registerOfWhat() {
        begin("15: Whom THE REGISTER of THING t says NOW; NONE: no such one");
        edges("thing of one", 0, 0, -1, v -> withTheft().register(v));
        edges("thing of four", 0, 3, -1, v -> withFourThings().register(v));
    }

    private static void registerByPutIntoIt() {
        begin("THE REGISTER says the first OWNER; behind a PASSING that is put into it, him TO whom that was");
        for (int signs = 0; signs < 8; signs++) {
            StolenCup cup = withCup();
            due("the first owner", cup.register(0), 0);
            cup.passing(0, STOLEN, 1, 0, 50, 0, signs, 0, 0);
            due("signs " + signs, cup.register(0), signs >> 2);
            give(cup, GIFT, 2, 0, 60);
            due("it stays", cup.register(0), signs >> 2);
            cup.passing(0, GIFT, 3, 0, 40, 0, 4, 0, 0);
            due("one that is told later, ahead of it", cup.register(0), signs >= 4 ? 1 : 3);
        }
        StolenCup cup = withCup();
        for (int k = 0; k < 20; k++) {
            cup.passing(0, LENT, (k + 1) % 6, 0, 0, 0, 4, 0, 0);
        }
        due("the last of twenty", cup.register(0), 2);
    }

    // ---- promises 16 and 17

    private static void mayOfWhat() {
        begin("16: MAY BE, as bits; NONE: no such ones");
        edges("f", 0, 5, -1, v -> withTheft().may(v, 0));
        edges("thing of one", 0, 0, -1, v -> withTheft().may(0, v));
        edges("thing of four", 0, 3, -1, v -> withFourThings().may(0, v));
    }

    private static void mayBeAllPersons() {
        begin("MAY BE: OWNERS NOW over all MINDS");
        StolenCup cup = withPersons(12);
        cup.thing(1, 0, 0);
        tell(cup, 0, "s(k=2)");
        give(cup, STOLEN, 1, 0, 0);
        for (int p = 2; p < 10; p++) {
            cup.passing(0, SALE, p, 0, 0, 0, 0, 0, 2);
        }
        due("by the last alone, which else goes from the owner", cup.may(0, 0), 1 << 9 | 1);
        tell(cup, 0, "s(k=1);y(k=2)");
        give(cup, STOLEN, 11, 0, 0);
        due("the thief may not be", cup.may(0, 0), 1 << 9 | 1);
        cup.mind(0, 9, 1, 2);
        due("nine are not sure", cup.may(0, 0), -1);
        cup.mind(0, 1, 0, 0);
        cup.now(1);
        due("the thief by time", cup.may(0, 0), 1 << 11 | 1 << 9 | 1);
        cup.mind(0, 9, 2, 2);
        due("the thief in any case", cup.may(0, 0), 1 << 11);
    }

    private static void eightMinds() {
        begin("8 PASSINGS at most have a MIND that is not sure: more are refused");
        StolenCup cup = withCup();
        for (int k = 0; k < 20; k++) {
            cup.passing(0, LENT, (k + 1) % 2, 0, 0, 0, 0, k % 3, k % 3);
        }
        int[][] unsure = {{0, 1}, {1, 2}, {0, 2}};
        for (int k = 0; k < 8; k++) {
            due("mind", cup.mind(0, 19 - k, unsure[k % 3][0], unsure[k % 3][1]), true);
            due(k + 1 + " of them, may", cup.may(0, 0), 1);
            due(k + 1 + " of them, hangs", cup.hangs(0, 0), 0);
        }
        for (int[] one : unsure) {
            cup.mind(0, 0, one[0], one[1]);
            due("nine, may", cup.may(0, 0), -1);
            due("nine, hangs", cup.hangs(0, 0), -1);
            due("whose is not refused", cup.whose(0, 0), 0);
        }
        cup.mind(0, 0, 2, 2);
        due("eight again", cup.may(0, 0), 1);
        for (int k = 0; k < 20; k++) {
            cup.mind(0, k, 0, 2);
        }
        due("twenty, may", cup.may(0, 0), -1);
        due("twenty, hangs", cup.hangs(0, 0), -1);
    }

    private static void eightMindsOfTwentyPassings() {
        begin("MAY BE, IT HANGS over all MINDS of eight PASSINGS of twenty");
        StolenCup cup = withPersons(12);
        cup.thing(1, 0, 0);
        tell(cup, 0, "s(k=c%3)");
        for (int k = 0; k < 20; k++) {
            boolean isSale = k >= 12;
            cup.passing(0, isSale ? SALE : STOLEN, k % 2 == 0 ? 1 : 2, 0, 0, 0, 0, 0, isSale ? 2 : 0);
        }
        // Each sale by which one who has no title gives it makes all sales behind it those of an owner.
        due("may", cup.may(0, 0), 1 << 2 | 1);
        due("hangs", cup.hangs(0, 0), 0xFF000);
    }

    private static void hangsOfWhat() {
        begin("17: PASSINGS on which IT HANGS, as bits; NONE likewise");
        edges("f", 0, 5, -1, v -> withTheft().hangs(v, 0));
        edges("thing of one", 0, 0, -1, v -> withTheft().hangs(0, v));
        edges("thing of four", 0, 3, -1, v -> withFourThings().hangs(0, v));
        due("no passing", withCup().hangs(0, 0), 0);
    }

    private static void hangsOnTheFirstAndTheLast() {
        begin("17: PASSINGS, as bits");
        StolenCup cup = withCup();
        tell(cup, 0, "f(k=0)");
        cup.passing(0, FOUND, 1, 0, 0, 0, 0, 0, 1);
        due("the first", cup.hangs(0, 0), 1);
        for (int k = 1; k < 19; k++) {
            give(cup, LENT, 1 + k % 2, 0, 0);
        }
        due("the first of many", cup.hangs(0, 0), 1);
        cup.passing(0, FOUND, 3, 0, 0, 0, 0, 1, 2);
        due("not the last, which gives it never", cup.hangs(0, 0), 1);
        cup.mind(0, 19, 0, 2);
        due("the first and the last", cup.hangs(0, 0), 1 << 19 | 1);
        cup.mind(0, 0, 0, 0);
        due("the last", cup.hangs(0, 0), 1 << 19);
    }

    private static void hangsByOthers() {
        begin("IT HANGS on a PASSING, if there are MINDS of the others with which its MIND alone changes the OWNER NOW");
        StolenCup cup = withCup();
        tell(cup, 0, "f(k=2)");
        give(cup, STOLEN, 1, 0, 0);
        cup.passing(0, FOUND, 2, 0, 0, 0, 0, 0, 2);
        cup.passing(0, FOUND, 3, 0, 0, 0, 0, 0, 2);
        due("the first of two, if the second knew nothing", cup.hangs(0, 0), 6);
        cup.mind(0, 2, 2, 2);
        due("the second gives it anyhow", cup.hangs(0, 0), 0);
        cup.mind(0, 2, 1, 2);
        due("there are minds of the second", cup.hangs(0, 0), 6);
        cup.mind(0, 1, 0, 1);
        due("the first gives it never", cup.hangs(0, 0), 4);
    }

    private static void hangsNotOnSureOnes() {
        begin("17: its MIND alone changes the OWNER: not one that is sure");
        StolenCup cup = withCup();
        tell(cup, 0, "s(k=1)");
        give(cup, STOLEN, 1, 0, 0);
        for (int low = 0; low <= 2; low++) {
            cup.passing(0, SALE, 2 + low, 0, 0, 1, 0, low, low);
        }
        due("all are sure", cup.hangs(0, 0), 0);
        due("may", cup.may(0, 0), 1 << 4);
    }

    private static void mayFromTheOwner() {
        begin("MAY BE: from the OWNER himself by SALE, GIFT, LEFT: TO whom is the OWNER, whatever he knew");
        for (int kind = SALE; kind <= WILL; kind++) {
            StolenCup cup = withCup();
            cup.passing(0, kind, 1, 0, 0, 0, 0, 0, 2);
            due("kind " + kind, cup.may(0, 0), 1 << 1);
            due("hangs", cup.hangs(0, 0), 0);
        }
        StolenCup cup = withCup();
        for (int k = 0; k < 19; k++) {
            give(cup, GIFT, (k + 1) % 6, 0, 0);
        }
        cup.passing(0, FOUND, 3, 0, 0, 0, 0, 0, 1);
        due("it left the owner's hands by the 20th", cup.may(0, 0), 1 << 1);
        tell(cup, 0, "f(k=0)");
        due("or the 20th gave it", cup.may(0, 0), 1 << 1 | 1 << 3);
        due("on which it hangs", cup.hangs(0, 0), 1 << 19);
    }

    private static void mindsAndTime() {
        begin("MAY BE, IT HANGS: k of a y is the MIND by which he took it, too");
        for (int mind = 0; mind <= 2; mind++) {
            for (int at = 0; at < 20; at++) {
                StolenCup cup = withCup();
                for (int k = 0; k < 20; k++) {
                    int low = k == at ? 0 : (mind + 1) % 3;
                    cup.passing(0, STOLEN, 1 + k % 5, 0, k, 0, 0, low, k == at ? 2 : low);
                }
                tell(cup, 0, "y(k=" + mind + "&c=" + (at + 1) + ")");
                due("by time behind " + at + " with " + mind, cup.may(0, 0), 1 << 1 + at % 5 | 1);
                due("hangs", cup.hangs(0, 0), 1 << at);
            }
        }
    }

    private static void mindsOfTimeThatStandApart() {
        begin("TIME over all MINDS: the OWNER, e, j, c as they stand with each");
        StolenCup cup = withCup();
        tell(cup, 0, "f(k=0);y(c=3)");
        cup.passing(0, FOUND, 1, 0, 10, 0, 0, 0, 1);
        give(cup, STOLEN, 2, 0, 20);
        give(cup, STOLEN, 3, 0, 30);
        due("c is 2 or 3 at last", cup.may(0, 0), 1 << 1 | 1 << 3);
        due("it hangs on the finder", cup.hangs(0, 0), 1);
        cup = withCup();
        tell(cup, 0, "f(k=0);y(k=0&c=1)");
        cup.passing(0, FOUND, 1, 0, 10, 0, 0, 0, 1);
        cup.passing(0, STOLEN, 2, 0, 20, 0, 0, 0, 2);
        due("time only if the finder is the owner and the thief knew nothing", cup.may(0, 0), 7);
        due("it hangs on both", cup.hangs(0, 0), 3);
        tell(cup, 0, "f(k=0);y(k=2&c=2)");
        due("time only if 0 is the owner yet and the thief knew", cup.may(0, 0), 7);
        due("it hangs on both", cup.hangs(0, 0), 3);
    }

    private static void hangsIfOneOfTheOthersMindsLetsIt() {
        begin("IT HANGS: there are MINDS of the others (one is enough) with which its MIND alone changes the OWNER");
        StolenCup cup = withCup();
        tell(cup, 0, "z(k=0);s(k=0);g(o=1)");
        cup.passing(0, SEIZED, 1, 0, 0, 0, 0, 0, 1);
        give(cup, STOLEN, 2, 0, 0);
        cup.passing(0, SALE, 3, 0, 0, 0, 0, 0, 1);
        give(cup, GIFT, 4, 0, 0);
        due("the gift gives it but if 0 is the owner yet", cup.may(0, 0), 1 << 4 | 1);
        due("the sale matters if the first knew", cup.hangs(0, 0), 1 << 2 | 1);
    }

    private static void hangsNotIfAllOfTheOthersMindsLevelIt() {
        begin("IT HANGS: the OWNER NOW, not one between");
        StolenCup cup = withCup();
        tell(cup, 0, "z(k=0);f(k=0&c>1);g(o=0)");
        cup.passing(0, SEIZED, 1, 0, 0, 0, 0, 0, 1);
        cup.passing(0, FOUND, 2, 0, 0, 0, 0, 0, 1);
        due("so far on both", cup.hangs(0, 0), 3);
        give(cup, GIFT, 3, 0, 0);
        due("the gift gives it but if 1 is the owner", cup.may(0, 0), 1 << 3 | 1 << 1);
        due("so it hangs on the second no more", cup.hangs(0, 0), 1);
    }

    private static void hangsOfTwoThingsInTurn() {
        begin("17: by a judge of F, THING t alone");
        StolenCup cup = withCup();
        cup.thing(1, 0, 0);
        tell(cup, 0, "s(k=0)");
        cup.passing(0, STOLEN, 1, 0, 0, 0, 0, 0, 0);
        cup.passing(0, SALE, 2, 0, 0, 0, 0, 0, 1);
        cup.passing(1, GIFT, 1, 0, 0, 0, 0, 0, 0);
        cup.passing(1, SALE, 2, 0, 0, 0, 0, 0, 1);
        for (int round = 0; round < 2; round++) {
            due("a sale of the thief's", cup.hangs(0, 0), 2);
            due("a sale of the owner's", cup.hangs(0, 1), 0);
            due("may", cup.may(0, 0), 5);
            due("may", cup.may(0, 1), 4);
        }
    }
}
