/** The bounds of what is asked, paid and owed, of roads to the cheapest land, of stopped laws and of checks. */
public final class EdgesOfMoneyTest extends CupChecks {
    public static void main(String[] args) {
        askedOfWhat();
        asMuchAsHisPurseHas();
        thenItHasLess();
        nobodysHasMore();
        whateverHeCouldGive();
        asLongAsThereAreSales();
        asLongAsAHolds();
        notIfTheOwnerHoldsIt();
        notIfTheOwnerPays();
        aPriceOfNothing();
        pursesStay();
        askedOfTwoInTurn();
        backOfWhat();
        backOfTheLastPassingAlone();
        outOfWhat();
        outOfTheGreatestPrices();
        outOfAllIsNothing();
        joinedOfWhat();
        joinedOfLikeWorth();
        joinedOfOneOwner();
        cheapestOfWhat();
        qIsNotHeWhoHoldsIt();
        pIsNeitherQNorTheOwner();
        eighteenPassings();
        zeroToItself();
        ofLikeOnesTheLowest();
        roadsOneBehindTheOther();
        thereIsNoCheapest();
        suchASale();
        nothingStaysOfIt();
        stoppedOfWhat();
        noneTooIsASet();
        withSoMuchMoney();
        allSixAreStopped();
        ofLikeOnesTheLeast();
        thereIsNoSet();
        eachThingTold();
        lawsAreNotStoppedForGood();
        checkOfWhat();
        checkOfHowMany();
        checkSomeAreLacking();
        checkTheFirstThatIsNotSo();
        checkTooMany();
        checkTheTape();
        end("the bounds of money are kept");
    }

    /** Stolen by 1, sold to 2 for 70, to 3 for 130; each has a purse of 100, and all may be asked back. */
    private static StolenCup withSales() {
        StolenCup cup = withCup();
        tell(cup, 0, "a(1=1)");
        give(cup, STOLEN, 1, 0, 10);
        sell(cup, 2, 0, 11, 70);
        sell(cup, 3, 0, 12, 130);
        return cup;
    }

    // ---- promise 18

    private static void askedOfWhat() {
        begin("18: Of PASSING i, what 0, 1; -2: nothing is asked for it; NONE: no such ones");
        edges("f", 0, 5, -1, v -> withSales().asked(v, 0, 1, 0));
        edges("thing", 0, 0, -1, v -> withSales().asked(0, v, 1, 0));
        edges("passing", 0, 2, -1, v -> withSales().asked(0, 0, v, 0));
        edges("what", 0, 1, -1, v -> withSales().asked(0, 0, 1, v));
        due("nothing for the theft", withSales().asked(0, 0, 0, 0), -2);
        due("nor given", withSales().asked(0, 0, 0, 1), -2);
        due("no passing yet", withCup().asked(0, 0, 0, 0), -1);
    }

    /** What 3 is given of a price by 2, who has so much in his purse. */
    private static int given(int price, int purse) {
        StolenCup cup = new StolenCup();
        cup.person(0, 0);
        cup.person(0, 0);
        cup.person(0, purse);
        cup.person(0, 0);
        cup.thing(1, 0, 0);
        tell(cup, 0, "a(1=1)");
        give(cup, STOLEN, 1, 0, 0);
        give(cup, GIFT, 2, 0, 0);
        sell(cup, 3, 0, 0, price);
        due("he asks for all", cup.asked(0, 0, 2, 0), price);
        return cup.asked(0, 0, 2, 1);
    }

    private static void asMuchAsHisPurseHas() {
        begin("he who is asked gives as much as his PURSE has");
        due("nothing", given(100, 0), 0);
        due("one less", given(100, 99), 99);
        due("just so much", given(100, 100), 100);
        due("one more", given(100, 101), 100);
        due("the greatest of both", given(1000000, 1000000), 1000000);
        due("the greatest price", given(1000000, 999999), 999999);
        due("the greatest purse", given(0, 1000000), 0);
    }

    private static void thenItHasLess() {
        begin("gives as much as his PURSE has (then it has less)");
        StolenCup cup = withCup();
        tell(cup, 0, "a(1=1)");
        give(cup, STOLEN, 1, 0, 0);
        int[] prices = {30, 50, 50, 10, 40, 90};
        for (int k = 0; k < 6; k++) {
            sell(cup, k % 2 == 0 ? 2 : 1, 0, 1, prices[k]);
        }
        // 1 asks 2 for 90, 2 asks 1 for 40, 1 asks 2 for 10 (his last), and so on.
        int[] gifts = {10, 0, 50, 10, 40, 90};
        for (int k = 0; k < 6; k++) {
            due("price " + prices[k], cup.asked(0, 0, k + 1, 1), gifts[k]);
        }
    }

    private static void nobodysHasMore() {
        begin("nobody's has more by it");
        StolenCup cup = new StolenCup();
        cup.person(0, 0);
        cup.person(0, 40);
        cup.person(0, 0);
        cup.thing(1, 0, 0);
        tell(cup, 0, "a(1=1)");
        give(cup, STOLEN, 1, 0, 0);
        sell(cup, 2, 0, 0, 30);
        sell(cup, 1, 0, 0, 30);
        sell(cup, 2, 0, 0, 30);
        due("1 gives 30", cup.asked(0, 0, 3, 1), 30);
        due("2, who got them, has nothing to give", cup.asked(0, 0, 2, 1), 0);
        due("1 has ten left", cup.asked(0, 0, 1, 1), 10);
    }

    private static void whateverHeCouldGive() {
        begin("he asks the PRICE that he gave himself likewise, if he had it by SALE (whatever he could give)");
        StolenCup cup = new StolenCup();
        cup.person(0, 0);
        cup.person(0, 1000);
        cup.person(0, 0);
        cup.person(0, 0);
        cup.thing(1, 0, 0);
        tell(cup, 0, "a(1=1)");
        give(cup, STOLEN, 1, 0, 0);
        sell(cup, 2, 0, 0, 70);
        sell(cup, 3, 0, 0, 80);
        due("he gave nothing", cup.asked(0, 0, 2, 1), 0);
        due("and asks for all", cup.asked(0, 0, 1, 0), 70);
        due("which he is given", cup.asked(0, 0, 1, 1), 70);
    }

    private static void asLongAsThereAreSales() {
        begin("and so on, PASSING by PASSING, as long as there are SALES from others than the OWNER");
        for (int kind = GIFT; kind <= SEIZED; kind++) {
            StolenCup cup = withSales();
            give(cup, kind, 4, 0, 20);
            due("nothing for kind " + kind, cup.asked(0, 0, 3, 0), -2);
            due("nor for the sale ahead of it", cup.asked(0, 0, 2, 0), -2);
            sell(cup, 5, 0, 30, 9);
            due("the sale behind it", cup.asked(0, 0, 4, 0), 9);
            due("but not kind " + kind, cup.asked(0, 0, 3, 0), -2);
            due("nor the sale ahead of it", cup.asked(0, 0, 2, 0), -2);
        }
        StolenCup cup = withCup();
        tell(cup, 0, "a(1=1)");
        sell(cup, 1, 0, 5, 40);
        give(cup, STOLEN, 2, 0, 10);
        sell(cup, 3, 0, 15, 60);
        due("the thief is asked", cup.asked(0, 0, 2, 0), 60);
        due("the theft ends it", cup.asked(0, 0, 1, 0), -2);
        due("the sale by the owner then is not asked", cup.asked(0, 0, 0, 0), -2);
    }

    private static void asLongAsAHolds() {
        begin("asks the PRICE, if a CLAUSE of a holds for it");
        StolenCup cup = withSales();
        tell(cup, 0, "a(c=3)");
        due("for the last", cup.asked(0, 0, 2, 0), 130);
        due("not for the one ahead", cup.asked(0, 0, 1, 0), -2);
        tell(cup, 0, "a(c=2)");
        due("not for the last", cup.asked(0, 0, 2, 0), -2);
        due("so the next is not asked", cup.asked(0, 0, 1, 0), -2);
        tell(cup, 0, "s(1=0)");
        due("without an a", cup.asked(0, 0, 2, 0), -2);
    }

    private static void notIfTheOwnerHoldsIt() {
        begin("if the OWNER is not he who HOLDS it: he gets it back");
        StolenCup cup = withSales();
        tell(cup, 0, "a(1=1);b(1=1);y(d=88)");
        for (int i = 0; i < 3; i++) {
            due("the owner holds it by time", cup.asked(0, 0, i, 0), -2);
            due("the owner holds it by time", cup.asked(0, 0, i, 1), -2);
        }
        due("back", cup.back(0, 0), -2);
        tell(cup, 0, "a(1=1);b(1=1);y(d=89)");
        due("not yet", cup.back(0, 0), 130);
    }

    private static void notIfTheOwnerPays() {
        begin("Who had to give it back without that asks the PRICE");
        StolenCup cup = withSales();
        tell(cup, 0, "a(1=1);b(c=3)");
        due("the owner pays", cup.back(0, 0), 130);
        due("so nothing is asked", cup.asked(0, 0, 2, 0), -2);
        due("of nobody", cup.asked(0, 0, 1, 0), -2);
        tell(cup, 0, "a(1=1);b(c=2)");
        due("the owner does not pay", cup.back(0, 0), 0);
        due("so it is asked", cup.asked(0, 0, 2, 0), 130);
        due("though b holds for the one ahead", cup.asked(0, 0, 1, 0), 70);
    }

    private static void aPriceOfNothing() {
        begin("at what PRICE (0 to 1000000): a PRICE of 0 may be asked, too");
        StolenCup cup = withSales();
        sell(cup, 4, 0, 13, 0);
        due("asked", cup.asked(0, 0, 3, 0), 0);
        due("given", cup.asked(0, 0, 3, 1), 0);
        due("and so on", cup.asked(0, 0, 2, 0), 130);
        tell(cup, 0, "a(1=1);b(1=1)");
        due("paid", cup.back(0, 0), 0);
        due("then nothing is asked", cup.asked(0, 0, 3, 0), -2);
    }

    private static void pursesStay() {
        begin("27: 30 + p the PURSE of PERSON p, whatever was only asked of a judge");
        StolenCup cup = withSales();
        for (int round = 0; round < 2; round++) {
            due("given", cup.asked(0, 0, 2, 1), 100);
            due("out", cup.out(0, 0, 3), 30);
            due("back", cup.back(0, 0), 0);
            for (int p = 0; p < 6; p++) {
                due("purse", cup.count(30 + p), 100);
            }
        }
    }

    private static void askedOfTwoInTurn() {
        begin("ASKED: by a judge of F, of THING t alone");
        StolenCup cup = withSales();
        cup.thing(5, 4, 0);
        cup.passing(1, GIFT, 5, 0, 10, 0, 0, 0, 0);
        cup.passing(1, LENT, 2, 0, 11, 0, 0, 0, 0);
        cup.passing(1, SALE, 3, 0, 12, 8, 0, 0, 0);
        cup.sends(5, SALE, 0);
        for (int round = 0; round < 2; round++) {
            due("thing 0", cup.asked(0, 0, 2, 0), 130);
            due("another judge", cup.asked(5, 0, 2, 0), -2);
            due("thing 1", cup.asked(0, 1, 2, 0), 8);
            due("thing 0, the first sale", cup.asked(0, 0, 1, 1), 70);
            due("thing 1, lent", cup.asked(0, 1, 1, 1), -2);
            due("whose", cup.whose(0, 1), 5);
        }
    }

    // ---- promises 19 and 20

    private static void backOfWhat() {
        begin("19: What the OWNER pays to get it back; -2: he HOLDS it; NONE: no such ones");
        edges("f", 0, 5, -1, v -> withSales().back(v, 0));
        edges("thing", 0, 0, -1, v -> withSales().back(0, v));
        due("he holds it", withCup().back(0, 0), -2);
        due("no b", withSales().back(0, 0), 0);
    }

    private static void backOfTheLastPassingAlone() {
        begin("Of the PASSING by which it is held now the OWNER pays the PRICE, if it is a SALE and a CLAUSE of b holds");
        StolenCup cup = withCup();
        tell(cup, 0, "b(x=1000*1000&c=2&d=0&j=0)");
        give(cup, STOLEN, 1, 0, 10);
        due("no sale", cup.back(0, 0), 0);
        sell(cup, 2, 0, 10, 1000000);
        due("the greatest price, more than his purse", cup.back(0, 0), 1000000);
        for (int kind = GIFT; kind <= SEIZED; kind++) {
            tell(cup, 0, "b(1=1)");
            give(cup, kind, 3 + kind % 2, 0, 20);
            due("held by kind " + kind, cup.back(0, 0), 0);
        }
    }

    private static void outOfWhat() {
        begin("20: OUT of PERSON p by THING t; -2000000000: no such ones");
        edges("f", 0, 5, NO_SUM, v -> withSales().out(v, 0, 0));
        edges("thing", 0, 0, NO_SUM, v -> withSales().out(0, v, 0));
        edges("person of six", 0, 5, NO_SUM, v -> withSales().out(0, 0, v));
        edges("person of twelve", 0, 11, NO_SUM, v -> {
            StolenCup cup = withPersons(12);
            cup.thing(1, 0, 0);
            return cup.out(0, 0, v);
        });
    }

    private static void outOfTheGreatestPrices() {
        begin("OUT: PRICES that he gave, less PRICES that he got, more WORTH if he was the first OWNER, less WORTH if he has it");
        StolenCup cup = withPersons(3);
        cup.thing(1000000, 0, 0);
        due("the owner who has it yet", cup.out(0, 0, 0), 0);
        for (int k = 0; k < 20; k++) {
            sell(cup, (k + 1) % 2, 0, 0, k % 2 == 0 ? 1000000 : 0);
        }
        due("ten millions got", cup.out(0, 0, 0), -10000000);
        due("ten millions given", cup.out(0, 0, 1), 10000000);
        due("nothing", cup.out(0, 0, 2), 0);
        cup = withPersons(3);
        cup.thing(1000000, 0, 0);
        give(cup, GIFT, 1, 0, 0);
        due("the worth is lost", cup.out(0, 0, 0), 1000000);
        due("the worth is won", cup.out(0, 0, 1), -1000000);
    }

    private static void outOfAllIsNothing() {
        begin("OUT: and what he gave when asked (and what the OWNER paid), less what he was given");
        String[] laws = {"a(1=1)", "b(1=1)", "a(c=3)", "s(c=3)", "y(1=1)"};
        int[][] right = {{0, 0, -30, 30}, {130, -70, -60, 0}, {0, -70, 40, 30}, {50, -70, -60, 80}, {50, -70, -60, 80}};
        for (int k = 0; k < laws.length; k++) {
            StolenCup cup = withSales();
            tell(cup, 0, laws[k]);
            int sum = 0;
            for (int p = 0; p < 6; p++) {
                sum += cup.out(0, 0, p);
            }
            due("all by " + laws[k], sum, 0);
            for (int p = 0; p < 4; p++) {
                due("out of " + p + " by " + laws[k], cup.out(0, 0, p), right[k][p]);
            }
        }
    }

    // ---- promise 21

    private static StolenCup withThings() {
        StolenCup cup = withPersons(4);
        cup.thing(50, 0, 0);
        cup.thing(50, 1, 0);
        cup.thing(51, 2, 0);
        cup.thing(49, 3, 0);
        return cup;
    }

    private static void joinedOfWhat() {
        begin("21: JOINED of THINGS t and u, what 0, 1, 2; NONE: no such ones, one twice");
        edges("f", 0, 5, -1, v -> withThings().joined(v, 0, 1, 0));
        edges("t", 1, 3, -1, v -> withThings().joined(0, v, 0, 0));
        edges("u", 1, 3, -1, v -> withThings().joined(0, 0, v, 0));
        edges("t", 0, 2, -1, v -> withThings().joined(0, v, 3, 0));
        edges("u", 0, 2, -1, v -> withThings().joined(0, 3, v, 0));
        edges("what", 0, 2, -1, v -> withThings().joined(0, 0, 1, v));
        for (int t = 0; t < 4; t++) {
            for (int what = 0; what <= 2; what++) {
                due("one twice", withThings().joined(0, t, t, what), -1);
            }
        }
    }

    private static void joinedOfLikeWorth() {
        begin("JOINED: the OWNER's of that of greater WORTH (of like ones of the first); he owes the other one's OWNER WORTH of that");
        int[][] cases = {{0, 1, 0, 1, 50}, {1, 0, 1, 0, 50}, {0, 2, 2, 0, 50}, {2, 0, 2, 0, 50}, {0, 3, 0, 3, 49}, {3, 0, 0, 3, 49}};
        for (int[] one : cases) {
            for (int what = 0; what <= 2; what++) {
                due(one[0] + " and " + one[1] + ", " + what, withThings().joined(0, one[0], one[1], what), one[2 + what]);
            }
        }
    }

    private static void joinedOfOneOwner() {
        begin("21: 1 whom he owes, 2 how much (NONE: nobody, nothing)");
        StolenCup cup = withThings();
        cup.passing(1, GIFT, 0, 0, 0, 0, 0, 0, 0);
        due("whose", cup.joined(0, 0, 1, 0), 0);
        due("nobody", cup.joined(0, 0, 1, 1), -1);
        due("nothing", cup.joined(0, 0, 1, 2), -1);
        cup.passing(1, STOLEN, 3, 0, 0, 0, 0, 0, 0);
        due("not him who holds it", cup.joined(0, 0, 1, 1), -1);
    }

    // ---- promise 23

    /** Roads 0 - 1 - 2 - 3 - 4 - 5 that cost ten each; the laws of 2 and 4 let a sale give title. */
    private static StolenCup withRoads() {
        StolenCup cup = withCup();
        tell(cup, 2, "s(1=1)");
        tell(cup, 4, "s(1=1)");
        for (int land = 0; land < 5; land++) {
            cup.road(land, land + 1, 10);
        }
        return cup;
    }

    private static void cheapestOfWhat() {
        begin("23: THE CHEAPEST, what 0 the LAND, 1 the COST; NONE: no such ones");
        edges("f", 0, 5, -1, v -> withRoads().cheapest(v, 0, 0, 1, 2, 0));
        edges("from", 0, 5, -1, v -> withRoads().cheapest(0, v, 0, 1, 2, 0));
        edges("thing", 0, 0, -1, v -> withRoads().cheapest(0, 0, v, 1, 2, 0));
        edges("what", 0, 1, -1, v -> withRoads().cheapest(0, 0, 0, 1, 2, v));
        // 0 holds it and 5 is p, so that q is 1 to 4; with 1 as q, p is 2 to 5.
        edges("q", 1, 4, -1, v -> withRoads().cheapest(0, 0, 0, v, 5, 0));
        edges("p", 2, 5, -1, v -> withRoads().cheapest(0, 0, 0, 1, v, 0));
    }

    private static void qIsNotHeWhoHoldsIt() {
        begin("23: NONE: q not he who HOLDS it");
        StolenCup cup = withRoads();
        due("0 holds it", cup.cheapest(0, 0, 0, 0, 2, 0), -1);
        give(cup, LENT, 3, 0, 10);
        due("3 holds it", cup.cheapest(0, 0, 0, 3, 2, 0), -1);
        due("0, the owner, does not, and sells what is his", cup.cheapest(0, 0, 0, 0, 2, 0), 0);
    }

    private static void pIsNeitherQNorTheOwner() {
        begin("23: NONE: p not q, nor its OWNER NOW by F");
        StolenCup cup = withRoads();
        due("p is q", cup.cheapest(0, 0, 0, 1, 1, 0), -1);
        due("p is the owner", cup.cheapest(0, 0, 0, 1, 0, 0), -1);
        tell(cup, 3, "y(d=90)");
        give(cup, STOLEN, 3, 3, 10);
        due("p is the owner by time", cup.cheapest(0, 0, 0, 1, 3, 0), -1);
        due("p is the owner no more", cup.cheapest(0, 0, 0, 1, 0, 0), 2);
        cup.sends(1, TIME, 0);
        due("by a judge of 1 he is", cup.cheapest(1, 0, 0, 2, 0, 0), -1);
        due("by a judge of 1 he only holds it", cup.cheapest(1, 0, 0, 2, 3, 0), 2);
    }

    private static void eighteenPassings() {
        begin("23: 18 PASSINGS of THING t at most");
        StolenCup cup = withRoads();
        for (int k = 0; k < 18; k++) {
            give(cup, LENT, 3 + k % 2, 0, 10);
        }
        due("18", cup.cheapest(0, 0, 0, 1, 2, 0), 2);
        due("18, stopped", cup.stopped(0, 0, 0, 1, 2, 20), 4);
        due("18 there are", cup.count(10), 18);
        give(cup, LENT, 5, 0, 10);
        due("19", cup.cheapest(0, 0, 0, 1, 2, 0), -1);
        due("19, stopped", cup.stopped(0, 0, 0, 1, 2, 20), -1);
        give(cup, LENT, 4, 0, 10);
        due("20", cup.cheapest(0, 0, 0, 1, 2, 0), -1);
        due("20, stopped", cup.stopped(0, 0, 0, 1, 2, 20), -1);
    }

    private static void zeroToItself() {
        begin("COSTS of ROADS are least (0 to itself)");
        StolenCup cup = withRoads();
        due("land 2", cup.cheapest(0, 2, 0, 1, 2, 0), 2);
        due("for nothing", cup.cheapest(0, 2, 0, 1, 2, 1), 0);
        cup.road(1, 2, 0);
        due("for nothing, too", cup.cheapest(0, 1, 0, 1, 2, 1), 0);
        tell(cup, 1, "s(1=1)");
        due("of like ones the lowest, not itself", cup.cheapest(0, 2, 0, 1, 2, 0), 1);
        due("of like ones the lowest, itself", cup.cheapest(0, 1, 0, 1, 2, 0), 1);
    }

    private static void ofLikeOnesTheLowest() {
        begin("THE CHEAPEST: of like ones the lowest");
        StolenCup cup = withRoads();
        due("2 and 4 cost ten", cup.cheapest(0, 3, 0, 1, 2, 0), 2);
        cup.road(2, 3, 11);
        due("2 costs one more", cup.cheapest(0, 3, 0, 1, 2, 0), 4);
        cup.road(2, 3, 9);
        due("2 costs one less", cup.cheapest(0, 3, 0, 1, 2, 1), 9);
    }

    private static void roadsOneBehindTheOther() {
        begin("the LAND to which the COSTS of ROADS are least");
        StolenCup cup = withCup();
        tell(cup, 5, "s(1=1)");
        int[] way = {0, 4, 2, 3, 1, 5};
        for (int k = 0; k < 5; k++) {
            cup.road(way[k], way[k + 1], 10000);
        }
        due("five of the dearest", cup.cheapest(0, 0, 0, 1, 2, 1), 50000);
        cup.road(0, 5, 10000);
        due("one road", cup.cheapest(0, 0, 0, 1, 2, 1), 10000);
        for (int k = 0; k < 5; k++) {
            cup.road(way[k], way[k + 1], 1999);
        }
        due("five that cost less than one", cup.cheapest(0, 0, 0, 1, 2, 1), 9995);
        for (int from = 0; from < 6; from++) {
            for (int to = 0; to < 6; to++) {
                cup = withRoads();
                for (int land = 0; land < 6; land++) {
                    tell(cup, land, land == to ? "s(1=1)" : "a(1=1)");
                }
                due("from " + from + " to " + to, cup.cheapest(0, from, 0, 1, 2, 1), 10 * Math.abs(from - to));
            }
        }
    }

    private static void thereIsNoCheapest() {
        begin("23: -2: there is none");
        StolenCup cup = withCup();
        due("no law", cup.cheapest(0, 0, 0, 1, 2, 0), -2);
        tell(cup, 1, "s(1=1)");
        due("no road", cup.cheapest(0, 0, 0, 1, 2, 0), -2);
        due("no cost either", cup.cheapest(0, 0, 0, 1, 2, 1), -2);
        cup.road(2, 1, 1);
        due("no road from there", cup.cheapest(0, 0, 0, 1, 2, 1), -2);
        cup.road(0, 2, 1);
        due("now there is", cup.cheapest(0, 0, 0, 1, 2, 1), 2);
        tell(cup, 1, "s(k>0)");
        due("not to one who knew nothing", cup.cheapest(0, 0, 0, 1, 2, 0), -2);
    }

    private static void suchASale() {
        begin("a SALE at a MARKET by a MERCHANT to one who knew nothing (TO PERSON p, at a PRICE that is its WORTH, NOT put into "
            + "THE REGISTER, THING t having gone by STOLEN TO PERSON q in the LAND from which one goes, both NOW)");
        StolenCup cup = withCup();
        cup.passing(0, LENT, 4, 3, 90, 0, 4, 2, 2);
        cup.road(0, 1, 7);
        tell(cup, 1, "s(m=1&n=1&k=0&x=v&v=50&r=0&e=1&d=0&j=10&c=3&l=1&h=2&o=0)");
        due("all letters", cup.cheapest(5, 0, 0, 1, 2, 0), 1);
        cup.sends(5, SALE, 2);
        cup.sends(0, SALE, 0);
        due("it lay in the land from which one goes", cup.cheapest(5, 0, 0, 1, 2, 0), -2);
        tell(cup, 0, "s(l=1)");
        due("by whose law only a sale in 1 gives title", cup.cheapest(5, 0, 0, 1, 2, 1), 7);
        cup = withCup();
        cup.now(200);
        tell(cup, 0, "y(1=1);s(j=0&c=2&e=0)");
        due("no time goes by behind them", cup.cheapest(0, 0, 0, 1, 2, 0), 0);
        tell(cup, 0, "f(1=1);z(1=1);s(1=0)");
        due("what is stolen is not found", cup.cheapest(0, 0, 0, 1, 2, 0), -2);
    }

    private static void nothingStaysOfIt() {
        begin("as the next two PASSINGS: they are thought of, not told");
        StolenCup cup = withRoads();
        give(cup, LENT, 3, 1, 10);
        for (int round = 0; round < 2; round++) {
            due("cheapest", cup.cheapest(0, 0, 0, 1, 2, 1), 20);
            due("stopped", cup.stopped(0, 0, 0, 1, 2, 20), 4);
            due("passings", cup.count(10), 1);
            due("holder", cup.holds(0), 3);
            due("owner", cup.whose(0, 0), 0);
            due("no second", cup.look(0, 1, 0), -1);
        }
        due("the next", give(cup, LENT, 4, 2, 20), 1);
        due("its kind", cup.look(0, 1, 0), LENT);
        due("its price", cup.look(0, 1, 4), 0);
    }

    // ---- promise 24

    private static void stoppedOfWhat() {
        begin("24: STOPPED, with THING t, PERSONS as above, and so much money (0 to 100000); NONE: no such ones");
        edges("f", 0, 5, -1, v -> withRoads().stopped(v, 0, 0, 1, 2, 20));
        edges("from", 0, 5, -1, v -> withRoads().stopped(0, v, 0, 1, 2, 20));
        edges("thing", 0, 0, -1, v -> withRoads().stopped(0, 0, v, 1, 2, 20));
        edges("q", 1, 4, -1, v -> withRoads().stopped(0, 0, 0, v, 5, 20));
        edges("p", 2, 5, -1, v -> withRoads().stopped(0, 0, 0, 1, v, 20));
        edges("money", 0, 100000, -1, v -> withRoads().stopped(0, 0, 0, 1, 2, v));
        due("p is q", withRoads().stopped(0, 0, 0, 1, 1, 20), -1);
        StolenCup cup = withRoads();
        give(cup, LENT, 3, 0, 10);
        due("q holds it", cup.stopped(0, 0, 0, 3, 2, 20), -1);
        due("p is the owner", cup.stopped(0, 0, 0, 1, 0, 20), -1);
        due("p holds it", cup.stopped(0, 0, 0, 1, 3, 20), 4);
    }

    private static void noneTooIsASet() {
        begin("the least set of LANDS (none, too)");
        due("no law", withCup().stopped(0, 0, 0, 1, 2, 100000), 0);
        due("no road", withRoads().stopped(0, 0, 0, 1, 2, 0), 0);
    }

    private static void withSoMuchMoney() {
        begin("no such LAND can be come to with the money");
        int[] money = {0, 19, 20, 39, 40, 100000};
        int[] sets = {0, 0, 4, 4, 20, 20};
        for (int k = 0; k < money.length; k++) {
            due("from 0 with " + money[k], withRoads().stopped(0, 0, 0, 1, 2, money[k]), sets[k]);
        }
        due("from 2 with nothing", withRoads().stopped(0, 2, 0, 1, 2, 0), 4);
        StolenCup cup = withCup();
        tell(cup, 5, "s(1=1)");
        for (int land = 0; land < 5; land++) {
            cup.road(land, land + 1, 10000);
        }
        due("one less than the dearest way", cup.stopped(0, 0, 0, 1, 2, 49999), 0);
        due("the dearest way", cup.stopped(0, 0, 0, 1, 2, 50000), 32);
    }

    private static void allSixAreStopped() {
        begin("24: the set, as bits");
        StolenCup cup = withRoads();
        for (int land = 0; land < 6; land++) {
            tell(cup, land, "s(1=1)");
        }
        for (int lands = 1; lands <= 6; lands++) {
            due(lands + " of them", cup.stopped(0, 0, 0, 1, 2, 10 * lands - 10), (1 << lands) - 1);
        }
        cup.sends(0, SALE, 0);
        due("F's own law alone", cup.stopped(0, 0, 0, 1, 2, 50), 1);
    }

    /**
     * To stop land 0 alone would give thing 1 to person 7: behind the sale of land 0 come two more, of the lands told,
     * that give title only if it did not, each to another; and the last passing gives it to 6 but from that one.
     */
    private static StolenCup withTwoWaysOut(int second, int third) {
        StolenCup cup = new StolenCup();
        int[] homes = {0, 0, 2, 0, 3, 0, 0, 4};
        for (int home : homes) {
            cup.person(home, 0);
        }
        cup.thing(50, 0, 0);
        cup.thing(50, 0, 0);
        tell(cup, 0, "s(1=1)");
        tell(cup, second, "s(o=0)");
        tell(cup, third, "s(o=3)");
        tell(cup, 5, "z(!o=4)");
        int[][] rows = {{STOLEN, 1, 5}, {SALE, 2, 0}, {STOLEN, 3, 5}, {SALE, 4, second}, {STOLEN, 5, 5}, {SALE, 7, third},
            {STOLEN, 3, 5}, {SEIZED, 6, 5}};
        for (int[] row : rows) {
            cup.passing(1, row[0], row[1], row[2], 0, 0, 0, 0, 0);
        }
        return cup;
    }

    private static void ofLikeOnesTheLeast() {
        begin("the least set of LANDS (fewest; of like ones the least, as bits)");
        StolenCup cup = withTwoWaysOut(1, 2);
        due("6 is the owner", cup.whose(0, 1), 6);
        due("0 and 1, or 0 and 2", cup.stopped(0, 0, 0, 1, 2, 0), 3);
        due("0 and 1, or 0 and 2", withTwoWaysOut(2, 1).stopped(0, 0, 0, 1, 2, 0), 3);
        due("0 and 3, or 0 and 4", withTwoWaysOut(4, 3).stopped(0, 0, 0, 1, 2, 0), 9);
        due("0 and 1, or 0 and 4", withTwoWaysOut(4, 1).stopped(0, 0, 0, 1, 2, 0), 3);
        due("one is fewer", withTwoWaysOut(1, 2).stopped(0, 2, 0, 1, 2, 0), 0);
    }

    private static void thereIsNoSet() {
        begin("24: -2: there is none (yet each THING told is NOW whose it is with them)");
        StolenCup cup = withRoads();
        give(cup, LENT, 3, 0, 10);
        due("the owner himself sells it", cup.stopped(0, 0, 0, 0, 2, 0), -2);
        cup = withRoads();
        cup.thing(9, 0, 0);
        cup.passing(1, STOLEN, 1, 2, 10, 0, 0, 0, 0);
        due("a theft in 2 needs no s", cup.stopped(0, 0, 0, 1, 2, 20), 4);
        cup.passing(1, SALE, 2, 2, 11, 5, 0, 0, 0);
        due("another thing was sold in 2", cup.stopped(0, 0, 0, 1, 2, 20), -2);
        due("with less money none is stopped", cup.stopped(0, 0, 0, 1, 2, 19), 0);
        cup.sends(5, SALE, 0);
        due("by a judge of 5 that was no sale by land 2's law", cup.stopped(5, 0, 0, 1, 2, 20), 0);
        cup = withRoads();
        give(cup, STOLEN, 1, 2, 10);
        sell(cup, 3, 2, 11, 5);
        due("the thing itself was sold in 2", cup.stopped(0, 0, 0, 1, 2, 20), -2);
    }

    private static void eachThingTold() {
        begin("STOPPED: each THING told is NOW whose it is with them");
        for (int sold = 1; sold < 4; sold++) {
            StolenCup cup = withRoads();
            for (int t = 1; t < 4; t++) {
                cup.thing(9, t, 0);
            }
            due("four things", cup.stopped(0, 0, 0, 1, 2, 20), 4);
            cup.passing(sold, STOLEN, 0, 2, 10, 0, 0, 0, 0);
            cup.passing(sold, SALE, 5, 2, 11, 5, 0, 0, 0);
            due("thing " + sold + " was sold in 2", cup.stopped(0, 0, 0, 1, 2, 20), -2);
            cup.passing(sold, GIFT, sold, 0, 12, 0, 0, 0, 0);
            due("and came back to its first owner", cup.stopped(0, 0, 0, 1, 2, 20), 4);
        }
    }

    private static void lawsAreNotStoppedForGood() {
        begin("24: without whose s: they are thought to be stopped, not told");
        StolenCup cup = withRoads();
        due("stopped", cup.stopped(0, 0, 0, 1, 2, 20), 4);
        due("the law is there yet", cup.count(22), 1);
        due("and gives title", cup.cheapest(0, 0, 0, 1, 2, 0), 2);
        give(cup, STOLEN, 1, 2, 10);
        sell(cup, 2, 2, 11, 5);
        due("and gives title", cup.whose(0, 0), 2);
    }

    // ---- promise 25

    private static StolenCup withTape(int feeds, int... numbers) {
        StolenCup cup = withCup();
        feedNumbers(cup, feeds, numbers);
        return cup;
    }

    private static void feedNumbers(StolenCup cup, int feeds, int... numbers) {
        for (int k = 0; k < feeds; k++) {
            int[] v = new int[5];
            for (int j = 0; j < 5; j++) {
                v[j] = 5 * k + j < numbers.length ? numbers[5 * k + j] : 0;
            }
            cup.feed(v[0], v[1], v[2], v[3], v[4]);
        }
    }

    /** Twenty passings behind which it is 0's; but now it is 2's by time. */
    private static StolenCup withTwentyPassings() {
        StolenCup cup = withCup();
        tell(cup, 0, "y(c=20&d=90)");
        for (int k = 0; k < 20; k++) {
            give(cup, LENT, 1 + k % 2, 0, 10);
        }
        return cup;
    }

    private static void checkOfWhat() {
        begin("25: CHECK; -2: no such ones");
        edges("f", 0, 5, -2, v -> withTape(1).check(v, 0, 1));
        edges("thing", 0, 0, -2, v -> withTape(1).check(0, v, 1));
    }

    private static void checkOfHowMany() {
        begin("25: by the first n numbers of the tape (four bytes each); -2: it has not so many");
        edges("n of nothing", 0, 0, -2, v -> withTape(0).check(0, 0, v));
        edges("n of twenty bytes", 0, 5, -2, v -> withTape(1).check(0, 0, v));
        edges("n of 200 bytes", 0, 50, -2, v -> withTape(10).check(0, 0, v));
        for (int n : new int[] {1 << 30, (1 << 30) + 1, 1 << 31, -(1 << 30)}) {
            due("four times " + n + " is not few", withTape(1).check(0, 0, n), -2);
        }
    }

    private static void checkSomeAreLacking() {
        begin("25: the place of the first number that is not so (n: some are lacking)");
        due("no passing, no number", withTape(0).check(0, 0, 0), 0);
        due("no passing, one number", withTape(1).check(0, 0, 1), -1);
        for (int n = 0; n <= 20; n++) {
            StolenCup cup = withTwentyPassings();
            feedNumbers(cup, 5);
            due(n + " of 21", cup.check(0, 0, n), n);
        }
    }

    private static void checkTheFirstThatIsNotSo() {
        begin("CHECK: TITLE behind each PASSING, then NOW: right, or the first that is not so");
        for (int first = 0; first <= 21; first++) {
            int[] numbers = new int[21];
            for (int k = first; k < 20; k += 3) {
                numbers[k] = 1;
            }
            numbers[20] = first == 20 ? 0 : 2;
            StolenCup cup = withTwentyPassings();
            feedNumbers(cup, 5, numbers);
            due("the first is " + first, cup.check(0, 0, 21), first == 21 ? -1 : first);
        }
        for (int bit = 0; bit < 32; bit++) {
            due("not by bit " + bit, withTape(1, 1 << bit).check(0, 0, 1), 0);
        }
    }

    private static void checkTooMany() {
        begin("25: the place of the first number that is not so: one behind NOW is none");
        due("one too many", withTape(1).check(0, 0, 2), 1);
        due("many too many", withTape(10).check(0, 0, 50), 1);
        due("a wrong one ahead of it", withTape(10, 3).check(0, 0, 50), 0);
    }

    private static void checkTheTape() {
        begin("25: by the first n numbers of the tape (empty then); -2: (the tape stays)");
        for (int n = 0; n <= 5; n++) {
            StolenCup cup = withTape(1);
            due("n " + n, cup.check(0, 0, n) != -2, true);
            due("empty then", cup.count(3), 0);
        }
        StolenCup cup = withTape(1, 0, 7, 0, 0, 0);
        int[][] refused = {{-1, 0, 1}, {6, 0, 1}, {0, -1, 1}, {0, 1, 1}, {0, 0, -1}, {0, 0, 6}};
        for (int[] one : refused) {
            due("refused", cup.check(one[0], one[1], one[2]), -2);
            due("the tape stays", cup.count(3), 20);
        }
        due("and its numbers", cup.check(0, 0, 1), -1);
    }
}
