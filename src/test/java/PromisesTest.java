/** Each promise of the document by hand: ordinary inputs, the edges that it names, wrong inputs. */
public final class PromisesTest extends CupChecks {
    public static void main(String[] args) {
        testNew();
        testNow();
        testPerson();
        testThing();
        testPassing();
        testPassingBetween();
        testMind();
        testFeed();
        testLaw();
        testLawFaults();
        testSends();
        testRules();
        testRulesOfOwner();
        testWhose();
        testWhoseFromOwner();
        testLetters();
        testLettersOfTime();
        testReckoning();
        testTitle();
        testWhen();
        testTime();
        testHolds();
        testRegister();
        testMay();
        testHangs();
        testAsked();
        testAskedTwice();
        testBack();
        testOut();
        testJoined();
        testRoad();
        testCheapest();
        testStopped();
        testCheck();
        testLook();
        testCount();
        end("all promises are kept");
    }

    // ---- promises

    private static void testNew() {
        begin("1 new");
        StolenCup cup = new StolenCup();
        for (int what = 0; what < 4; what++) {
            due("count(" + what + ")", cup.count(what), 0);
        }
        for (int land = 0; land < 6; land++) {
            due("clauses", cup.count(20 + land), 0);
        }
        due("no thing", cup.count(10), -1);
        due("no person", cup.count(30), -1);
        cup.person(0, 0);
        cup.person(0, 0);
        cup.person(0, 0);
        cup.thing(1, 0, 0);
        due("no roads and no laws", cup.cheapest(0, 0, 0, 1, 2, 0), -2);
    }

    private static void testNow() {
        begin("2 now");
        StolenCup cup = new StolenCup();
        due("now(-1)", cup.now(-1), false);
        due("now(0)", cup.now(0), true);
        due("now(7)", cup.now(7), true);
        due("now(7) again", cup.now(7), true);
        due("now(6)", cup.now(6), false);
        due("now(600)", cup.now(600), false);
        due("count", cup.count(0), 7);
        due("now(599)", cup.now(599), true);
        due("count", cup.count(0), 599);
    }

    private static void testPerson() {
        begin("3 person");
        StolenCup cup = new StolenCup();
        due("home", cup.person(-1, 0), -1);
        due("home", cup.person(6, 0), -1);
        due("purse", cup.person(0, -1), -1);
        due("purse", cup.person(0, 1000001), -1);
        for (int k = 0; k < 12; k++) {
            due("person", cup.person(5, 1000000 - k), k);
        }
        due("a 13th", cup.person(0, 0), -1);
        due("count", cup.count(1), 12);
        due("purse", cup.count(41), 999989);
    }

    private static void testThing() {
        begin("4 thing");
        StolenCup cup = withPersons(2);
        due("worth", cup.thing(0, 0, 0), -1);
        due("worth", cup.thing(1000001, 0, 0), -1);
        due("owner", cup.thing(1, 2, 0), -1);
        due("owner", cup.thing(1, -1, 0), -1);
        due("land", cup.thing(1, 0, 6), -1);
        due("land", cup.thing(1, 0, -1), -1);
        for (int k = 0; k < 4; k++) {
            due("thing", cup.thing(1000000, k % 2, 5), k);
            due("owner", cup.whose(0, k), k % 2);
            due("holder", cup.holds(k), k % 2);
        }
        due("a fifth", cup.thing(1, 0, 0), -1);
        due("count", cup.count(2), 4);
    }

    private static void testPassing() {
        begin("5 passing");
        StolenCup cup = withCup();
        due("thing", cup.passing(1, GIFT, 1, 0, 0, 0, 0, 0, 0), -1);
        due("thing", cup.passing(-1, GIFT, 1, 0, 0, 0, 0, 0, 0), -1);
        due("kind", cup.passing(0, -1, 1, 0, 0, 0, 0, 0, 0), -1);
        due("kind", cup.passing(0, 8, 1, 0, 0, 0, 0, 0, 0), -1);
        due("to", cup.passing(0, GIFT, 6, 0, 0, 0, 0, 0, 0), -1);
        due("land", cup.passing(0, GIFT, 1, 6, 0, 0, 0, 0, 0), -1);
        due("month", cup.passing(0, GIFT, 1, 0, -1, 0, 0, 0, 0), -1);
        due("month that is not yet", cup.passing(0, GIFT, 1, 0, 101, 0, 0, 0, 0), -1);
        due("price", cup.passing(0, SALE, 1, 0, 0, 1000001, 0, 0, 0), -1);
        due("price", cup.passing(0, SALE, 1, 0, 0, -1, 0, 0, 0), -1);
        for (int kind = GIFT; kind <= SEIZED; kind++) {
            due("price of no sale", cup.passing(0, kind, 1, 0, 0, 1, 0, 0, 0), -1);
        }
        due("signs", cup.passing(0, GIFT, 1, 0, 0, 0, 8, 0, 0), -1);
        due("signs", cup.passing(0, GIFT, 1, 0, 0, 0, -1, 0, 0), -1);
        due("mind", cup.passing(0, GIFT, 1, 0, 0, 0, 0, -1, 0), -1);
        due("mind", cup.passing(0, GIFT, 1, 0, 0, 0, 0, 0, 3), -1);
        due("mind", cup.passing(0, GIFT, 1, 0, 0, 0, 0, 2, 1), -1);
        due("to him who holds it", cup.passing(0, GIFT, 0, 0, 0, 0, 0, 0, 0), -1);
        due("none were taken", cup.count(10), 0);
        for (int k = 0; k < 20; k++) {
            due("passing", cup.passing(0, SALE, (k + 1) % 2, 5, 100, 1000000, 7, 0, 2), k);
        }
        due("a 21st", cup.passing(0, SALE, 1, 5, 100, 0, 0, 0, 0), -1);
        due("count", cup.count(10), 20);
    }

    private static void testPassingBetween() {
        begin("5 passing between");
        StolenCup cup = withCup();
        due("first", give(cup, GIFT, 1, 0, 50), 0);
        due("behind a like month", give(cup, GIFT, 2, 0, 50), 1);
        due("ahead", give(cup, STOLEN, 3, 0, 20), 0);
        due("numbered anew", cup.look(0, 1, 1), 1);
        due("from", cup.look(0, 1, 8), 3);
        due("it would be from and to 1", give(cup, GIFT, 1, 0, 40), -1);
        due("from 3 to 3", give(cup, GIFT, 3, 0, 40), -1);
        due("at the end of its month", give(cup, GIFT, 4, 0, 50), 3);
        due("in between", give(cup, GIFT, 0, 0, 49), 1);
        due("count", cup.count(10), 5);
        due("holder", cup.holds(0), 4);
    }

    private static void testMind() {
        begin("6 mind");
        StolenCup cup = withCup();
        due("no passing yet", cup.mind(0, 0, 0, 0), false);
        give(cup, GIFT, 1, 0, 5);
        due("mind", cup.mind(0, 0, 1, 2), true);
        due("low", cup.look(0, 0, 6), 1);
        due("high", cup.look(0, 0, 7), 2);
        due("mind", cup.mind(0, 0, 2, 1), false);
        due("mind", cup.mind(0, 0, -1, 1), false);
        due("mind", cup.mind(0, 0, 0, 3), false);
        due("row", cup.mind(0, 1, 0, 0), false);
        due("row", cup.mind(0, -1, 0, 0), false);
        due("thing", cup.mind(1, 0, 0, 0), false);
        due("low", cup.look(0, 0, 6), 1);
    }

    private static void testFeed() {
        begin("7 feed");
        StolenCup cup = new StolenCup();
        for (int k = 1; k <= 10; k++) {
            due("feed", cup.feed(k, 0, 0, 0, 0), 20 * k);
        }
        due("an eleventh", cup.feed(0, 0, 0, 0, 0), -1);
        due("count", cup.count(3), 200);
        cup = new StolenCup();
        cup.feed('s' << 24 | '(' << 16 | '1' << 8 | '=', '1' << 24 | ')' << 16, 0, 0, 0);
        due("the highest byte comes first", cup.law(0, 6), 1);
        cup = withPersons(1);
        cup.thing(1, 0, 0);
        cup.feed(0, -1, 0x80000001, 0, 0);
        due("bytes above 127", cup.check(0, 0, 3), 1);
    }

    private static void testLaw() {
        begin("8 law");
        StolenCup cup = new StolenCup();
        due("empty tape", cup.law(0, 1), -1);
        due("clauses", tell(cup, 5, "s(1=1);s(k<2);a(x>v|!(m=1&n=0))"), 3);
        due("count", cup.count(25), 3);
        due("the tape is empty", cup.count(3), 0);
        feedText(cup, "y(d>12)");
        due("land", cup.law(6, 7), -1);
        due("land", cup.law(-1, 7), -1);
        due("n", cup.law(0, 0), -1);
        due("n", cup.law(0, 161), -1);
        due("not so many", cup.law(0, 21), -1);
        due("the tape stays", cup.count(3), 20);
        due("the first n", cup.law(5, 7), 1);
        due("in place of the one before", cup.count(25), 1);
        StringBuilder longest = new StringBuilder("s(1");
        for (int k = 0; k < 77; k++) {
            longest.append("+1");
        }
        due("160 bytes", tell(cup, 1, longest + "=9)"), 1);
        due("12 clauses", tell(cup, 1, "s(1=1);g(1=1);w(1=1);f(1=1);z(1=1);y(1=1);b(1=1);a(1=1);s(1=1);s(1=1);s(1=1);s(1=1)"), 12);
        due("fault", tell(cup, 1, "s(1=1"), -1005);
        due("the law before stays", cup.count(21), 12);
        due("the tape is empty behind a fault", cup.count(3), 0);
    }

    private static void testLawFaults() {
        begin("8 faults");
        StolenCup cup = new StolenCup();
        due("letter", tell(cup, 0, "k(1=1)"), -1000);
        due("blank", tell(cup, 0, "s (1=1)"), -1001);
        due("no comparison", tell(cup, 0, "s(k)"), -1003);
        due("two comparisons", tell(cup, 0, "s(k=1=1)"), -1005);
        due("empty", tell(cup, 0, "s()"), -1002);
        due("brackets hold no conditions", tell(cup, 0, "s([1=1])"), -1004);
        due("a piece in ( is no factor", tell(cup, 0, "s((k)=1)"), -1004);
        due("a minus of its own", tell(cup, 0, "s(-1=1)"), -1002);
        due("behind a clause", tell(cup, 0, "s(1=1)s(1=1)"), -1006);
        due("; at the end", tell(cup, 0, "s(1=1);"), -1007);
        due("clause letter as a factor", tell(cup, 0, "s(s=1)"), -1002);
        due("! of a number", tell(cup, 0, "s(1=!1)"), -1004);
        due("byte 200", tell(cup, 0, "s(1=" + (char) 200 + ")"), -1004);
        due("six digits", tell(cup, 0, "s(000000=999999)"), 1);
        due("seven digits", tell(cup, 0, "s(0000001=1)"), -2008);
        due("seventh digit ahead of a letter", tell(cup, 0, "s(0000001q"), -2008);
        due("six open", tell(cup, 0, "s(!(!([1]=1)))"), 1);
        due("seven open", tell(cup, 0, "s(!(!([[1]]=1)))"), -5007);
        due("seven !", tell(cup, 0, "s(!!!!!!1=1)"), -5007);
        due("a ! ends with its piece", tell(cup, 0, "s(!!!!!1=1&(((((1=1))))))"), 1);
        due("a ! is open in its piece", tell(cup, 0, "s(!!!!!1=[1])"), -5009);
        due("[ is open", tell(cup, 0, "s([[[[[[1]]]]]]=1)"), -5007);
        StringBuilder many = new StringBuilder();
        for (int k = 0; k < 12; k++) {
            many.append("s(1=1);");
        }
        due("a 13th", tell(cup, 0, many + "a(1=1)"), -4084);
        due("a 13th that can't stand there", tell(cup, 0, many + "k(1=1)"), -1084);
        due("the end in place of a 13th", tell(cup, 0, many + ""), -1084);
    }

    private static void testSends() {
        begin("9 sends");
        StolenCup cup = withCup();
        due("land", cup.sends(-1, 0, 0), false);
        due("land", cup.sends(6, 0, 0), false);
        due("kind", cup.sends(0, -1, 0), false);
        due("kind", cup.sends(0, 9, 0), false);
        due("to", cup.sends(0, 0, -1), false);
        due("to", cup.sends(0, 0, 6), false);
        due("sends", cup.sends(5, 8, 5), true);
        give(cup, STOLEN, 1, 3, 5);
        due("time alone", cup.rules(5, 0, 0, 0), 3);
        due("the land where it lay at first sends to that of the passing", cup.rules(5, 0, 0, 1), 3);
    }

    private static void testRules() {
        begin("10 rules");
        StolenCup cup = withPersons(6);
        cup.thing(50, 0, 4);
        cup.now(100);
        give(cup, STOLEN, 1, 3, 10);
        give(cup, GIFT, 2, 5, 11);
        due("the land of the passing", cup.rules(0, 0, 0, 0), 3);
        due("f", cup.rules(6, 0, 0, 0), -1);
        due("thing", cup.rules(0, 1, 0, 0), -1);
        due("row", cup.rules(0, 0, 2, 0), -1);
        due("time", cup.rules(0, 0, 0, 2), -1);
        due("time", cup.rules(0, 0, 0, -1), -1);
        for (int land = 1; land < 6; land++) {
            cup.sends(land, STOLEN, 0);
            cup.sends(land, GIFT, 0);
        }
        int[] first = {0, 3, 4, 1, 0, 4};
        int[] second = {0, 5, 3, 2, 0, 4};
        for (int to = 0; to < 6; to++) {
            cup.sends(0, STOLEN, to);
            cup.sends(0, GIFT, to);
            due("stolen, to " + to, cup.rules(0, 0, 0, 0), first[to]);
            due("gift, to " + to, cup.rules(0, 0, 1, 0), second[to]);
        }
        cup.sends(0, GIFT, 1);
        cup.sends(5, GIFT, 2);
        cup.sends(3, GIFT, 3);
        due("three lands on", cup.rules(0, 0, 1, 0), 2);
        cup.sends(2, GIFT, 1);
        due("a ring that F is not in", cup.rules(0, 0, 1, 0), -2);
        tell(cup, 0, "g(1=1)");
        due("then F's own law is asked", cup.whose(0, 0), 2);
        due("of another F", cup.whose(1, 0), 0);
    }

    private static void testRulesOfOwner() {
        begin("10 rules, owner then");
        StolenCup cup = withCup();
        for (int kind = 0; kind < 9; kind++) {
            cup.sends(5, kind, 4);
            for (int land = 0; land < 5; land++) {
                cup.sends(land, kind, 0);
            }
        }
        sell(cup, 3, 0, 10, 1);
        give(cup, STOLEN, 1, 0, 20);
        sell(cup, 2, 0, 30, 1);
        tell(cup, 3, "y(d=10)");
        due("ahead of the sale by the owner", cup.rules(5, 0, 0, 0), 0);
        due("time behind it", cup.rules(5, 0, 0, 1), 3);
        due("ahead of the theft", cup.rules(5, 0, 1, 0), 3);
        due("time behind the theft, till it is his", cup.rules(5, 0, 1, 1), 3);
        due("time made the thief the owner", cup.rules(5, 0, 2, 0), 1);
    }

    private static void testWhose() {
        begin("11 whose");
        StolenCup cup = withCup();
        due("f", cup.whose(6, 0), -1);
        due("f", cup.whose(-1, 0), -1);
        due("thing", cup.whose(0, 1), -1);
        due("at first", cup.whose(3, 0), 0);
        String[] letters = {"s", "g", "w", "", "", "", "f", "z"};
        for (int kind = 0; kind < 8; kind++) {
            for (int lawKind = 0; lawKind < 8; lawKind++) {
                cup = withCup();
                if (!letters[lawKind].isEmpty()) {
                    tell(cup, 1, letters[lawKind] + "(1=1)");
                }
                give(cup, STOLEN, 1, 0, 10);
                give(cup, kind, 2, 1, 20);
                boolean gives = kind == lawKind && !letters[kind].isEmpty();
                due("kind " + kind + " by " + letters[lawKind], cup.whose(0, 0), gives ? 2 : 0);
            }
        }
        cup = withCup();
        tell(cup, 1, "s(k=1);s(k=0)");
        give(cup, STOLEN, 1, 0, 10);
        sell(cup, 2, 1, 20, 5);
        due("one of two must hold", cup.whose(0, 0), 2);
        cup.mind(0, 1, 2, 2);
        due("none of them", cup.whose(0, 0), 0);
        cup.mind(0, 1, 1, 2);
        due("least minds", cup.whose(0, 0), 2);
    }

    private static void testWhoseFromOwner() {
        begin("11 whose, from the owner");
        for (int kind = 0; kind < 8; kind++) {
            StolenCup cup = withCup();
            give(cup, kind, 1, 0, 10);
            due("kind " + kind + " without a law", cup.whose(0, 0), kind <= WILL ? 1 : 0);
            tell(cup, 0, "f(e=0&j=0&c=1);z(e=0&j=0&c=1);s(1=0)");
            due("kind " + kind + " by f, z", cup.whose(0, 0), kind <= WILL || kind >= FOUND ? 1 : 0);
        }
        StolenCup cup = withCup();
        give(cup, LENT, 1, 0, 10);
        give(cup, GIFT, 0, 0, 11);
        due("it came back", cup.whose(0, 0), 0);
        give(cup, SALE, 2, 0, 12);
        due("and was sold by the owner", cup.whose(0, 0), 2);
        due("who holds it", cup.back(0, 0), -2);
    }

    private static void testLetters() {
        begin("11 letters");
        StolenCup cup = withCup();
        give(cup, LENT, 1, 4, 10);
        give(cup, STOLEN, 2, 4, 13);
        cup.passing(0, SALE, 3, 1, 17, 30, 1, 1, 1);
        String[] right = {"k=1", "m=1", "n=0", "r=0", "e=1", "x=30", "v=50", "d=0", "j=7", "c=3", "l=1", "h=3", "o=0"};
        for (String condition : right) {
            tell(cup, 1, "s(" + condition + ")");
            due(condition, cup.whose(0, 0), 3);
            tell(cup, 1, "s(!" + condition + ")");
            due("not " + condition, cup.whose(0, 0), 0);
        }
        tell(cup, 1, "s(r=1)");
        due("the register says the first owner", cup.whose(0, 0), 0);
        cup = withCup();
        cup.passing(0, PAWN, 1, 0, 10, 0, 4, 0, 0);
        cup.passing(0, SALE, 2, 1, 10, 30, 6, 0, 0);
        for (String condition : new String[] {"r=1", "e=1", "m=0", "n=1", "c=2", "j=0"}) {
            tell(cup, 1, "s(" + condition + ")");
            due(condition, cup.whose(0, 0), 2);
        }
        tell(cup, 1, "s(1=0)");
        give(cup, GIFT, 0, 1, 20);
        give(cup, FOUND, 4, 1, 25);
        sell(cup, 5, 1, 31, 9);
        tell(cup, 1, "s(e=0&j=6&c=2)");
        due("e, j, c begin anew", cup.whose(0, 0), 5);
    }

    private static void testLettersOfTime() {
        begin("11 letters of time");
        StolenCup cup = withCup();
        give(cup, PAWN, 1, 2, 10);
        cup.passing(0, SALE, 4, 1, 15, 30, 3, 2, 2);
        tell(cup, 1, "y(k=2&m=1&n=1&r=0&e=1&x=30&v=50&d=7&j=12&c=2&l=1&h=4&o=0)");
        due("whose", cup.whose(0, 0), 4);
        due("when", cup.when(0, 0, 1, 0), 22);
        tell(cup, 1, "y(j>12)");
        due("j goes on", cup.when(0, 0, 1, 0), 23);
    }

    private static void testReckoning() {
        begin("8, 11 reckoning");
        dueHolds("7-2-1=4", true);
        dueHolds("2+3*4=14", true);
        dueHolds("[2+3]*4=20", true);
        dueHolds("100/7/2=7", true);
        dueHolds("17%10%4=3", true);
        dueHolds("2*7/4*2=6", true);
        dueHolds("[0-7]/2=0-3", true);
        dueHolds("[0-7]%2=0-1", true);
        dueHolds("999999*999999/1000=0-729379", true);
        dueHolds("65536*65536=0", true);
        dueHolds("32768*65536<0", true);
        dueHolds("32768*65536/[0-1]<0", true);
        dueHolds("32768*65536%[0-1]=0", true);
        dueHolds("1<1|1>1", false);
        dueHolds("0<1&1>0", true);
        dueHolds("1=1|1=0&1=0", true);
        dueHolds("(1=1|1=0)&1=0", false);
        dueHolds("!1=0&1=0", false);
        dueHolds("!(1=0&1=0)", true);
        dueHolds("!!1=1", true);
        dueHolds("1/0=1", false);
        dueHolds("!1/0=1", false);
        dueHolds("!(1%0=1)", false);
        dueHolds("1/0=1|1=1", false);
        dueHolds("1=1|1/0=1", true);
        dueHolds("1=0&1/0=1|1=1", true);
        dueHolds("1=1&1/0=1|1=1", false);
        dueHolds("(1=0|1=1|1/0=1)&1=1", true);
        dueHolds("1/0=1);s(1=1", true);
    }

    private static void testTitle() {
        begin("12 title");
        StolenCup cup = withCup();
        due("no passing", cup.title(0, 0, 0), -1);
        tell(cup, 0, "y(d=5)");
        give(cup, STOLEN, 1, 0, 10);
        give(cup, STOLEN, 2, 0, 14);
        give(cup, STOLEN, 3, 0, 19);
        due("behind the first", cup.title(0, 0, 0), 0);
        due("ahead of time", cup.title(0, 0, 1), 0);
        due("time gave it him who lost it next", cup.title(0, 0, 2), 2);
        due("now", cup.whose(0, 0), 3);
        due("f", cup.title(6, 0, 0), -1);
        due("thing", cup.title(0, 1, 0), -1);
        due("row", cup.title(0, 0, 3), -1);
        due("row", cup.title(0, 0, -1), -1);
    }

    private static void testWhen() {
        begin("13 when");
        StolenCup cup = withCup();
        tell(cup, 0, "y(d>4);g(1=1)");
        give(cup, STOLEN, 1, 0, 10);
        give(cup, LENT, 2, 0, 12);
        give(cup, LENT, 3, 0, 20);
        give(cup, GIFT, 4, 0, 22);
        due("too short", cup.when(0, 0, 0, 0), -1);
        due("by time", cup.when(0, 0, 1, 0), 17);
        due("not by the passing", cup.when(0, 0, 1, 1), 0);
        due("another gets none", cup.when(0, 0, 2, 0), -1);
        due("by the gift", cup.when(0, 0, 3, 1), 1);
        due("not by time", cup.when(0, 0, 3, 0), -1);
        due("what", cup.when(0, 0, 1, 2), -1);
        due("what", cup.when(0, 0, 1, -1), -1);
        due("f", cup.when(-1, 0, 1, 0), -1);
        due("row", cup.when(0, 0, 4, 0), -1);
        due("thing", cup.when(0, 1, 0, 0), -1);
        cup = withCup();
        give(cup, WILL, 1, 0, 3);
        due("by the owner's will", cup.when(0, 0, 0, 1), 1);
        testWhenBack();
    }

    private static void testWhenBack() {
        StolenCup cup = withCup();
        tell(cup, 0, "s(1=1);g(1=1);w(1=1);f(1=1);z(1=1)");
        int month = 0;
        for (int kind = 0; kind < 8; kind++) {
            int i = give(cup, LENT, 1, 0, month++);
            give(cup, kind, 0, 0, month++);
            due("lent", cup.when(0, 0, i, 1), 0);
            due("back to the owner, who is so already", cup.when(0, 0, i + 1, 1), 0);
            due("nor by time", cup.when(0, 0, i + 1, 0), -1);
            due("he is the owner", cup.title(0, 0, i + 1), 0);
        }
        int i = give(cup, GIFT, 1, 0, month++);
        due("from him again", cup.when(0, 0, i, 1), 1);
        give(cup, STOLEN, 2, 0, month++);
        i = give(cup, SALE, 3, 0, month++);
        due("a clause gives it to another", cup.when(0, 0, i, 1), 1);
    }

    private static void testTime() {
        begin("11, 13 time");
        StolenCup cup = withPersons(4);
        cup.thing(50, 0, 0);
        tell(cup, 0, "y(d=0);y(d=5)");
        cup.now(10);
        give(cup, STOLEN, 1, 0, 10);
        due("not in the month in which he took it", cup.whose(0, 0), 0);
        cup.now(14);
        due("not yet", cup.whose(0, 0), 0);
        cup.now(15);
        due("now", cup.whose(0, 0), 1);
        give(cup, STOLEN, 2, 0, 15);
        due("in the month of the next passing, ahead of it", cup.when(0, 0, 0, 0), 15);
        due("so it left the thief's hands", cup.title(0, 0, 1), 1);
        cup.now(20);
        due("and time goes anew", cup.whose(0, 0), 2);
        cup.sends(0, 8, 0);
        cup.sends(0, STOLEN, 1);
        due("law for time", cup.whose(3, 0), 2);
        cup.sends(3, 8, 0);
        due("another judge's", cup.whose(3, 0), 0);
    }

    private static void testHolds() {
        begin("14 holds");
        StolenCup cup = withCup();
        due("at first", cup.holds(0), 0);
        give(cup, STOLEN, 4, 0, 9);
        due("the thief", cup.holds(0), 4);
        give(cup, LENT, 2, 0, 3);
        due("still", cup.holds(0), 4);
        due("thing", cup.holds(1), -1);
        due("thing", cup.holds(-1), -1);
    }

    private static void testRegister() {
        begin("15 register");
        StolenCup cup = withCup();
        due("at first", cup.register(0), 0);
        give(cup, GIFT, 1, 0, 10);
        due("not put into it", cup.register(0), 0);
        cup.passing(0, STOLEN, 2, 0, 20, 0, 4, 0, 0);
        due("a thief's", cup.register(0), 2);
        cup.passing(0, GIFT, 3, 0, 15, 0, 7, 0, 0);
        due("the last one", cup.register(0), 2);
        give(cup, GIFT, 4, 0, 30);
        due("stays", cup.register(0), 2);
        due("thing", cup.register(1), -1);
    }

    private static void testMay() {
        begin("16 may");
        StolenCup cup = withCup();
        tell(cup, 0, "s(k<1);g(k=2);y(d>20&k=1)");
        give(cup, STOLEN, 1, 0, 10);
        due("sure", cup.may(0, 0), 1);
        cup.passing(0, SALE, 2, 0, 11, 5, 0, 0, 2);
        due("2 or 0 or by time 2", cup.may(0, 0), 5);
        cup.passing(0, LENT, 3, 0, 20, 0, 0, 2, 2);
        cup.passing(0, GIFT, 4, 0, 30, 0, 0, 1, 2);
        due("4 by gift or time", cup.may(0, 0), 16);
        cup.mind(0, 3, 0, 2);
        due("0, 2, 4", cup.may(0, 0), 21);
        due("f", cup.may(6, 0), -1);
        due("thing", cup.may(0, 1), -1);
        for (int k = 0; k < 6; k++) {
            cup.passing(0, PAWN, k % 2, 0, 40, 0, 0, 0, 1);
        }
        due("eight", cup.may(1, 0) != -1, true);
        due("eight", cup.hangs(1, 0) != -1, true);
        cup.mind(0, 0, 0, 1);
        due("nine with the first", cup.may(1, 0), -1);
        cup.mind(0, 0, 1, 1);
        due("eight again", cup.hangs(1, 0) != -1, true);
        cup.passing(0, PAWN, 5, 0, 40, 0, 0, 0, 2);
        due("nine", cup.may(0, 0), -1);
        due("nine", cup.hangs(0, 0), -1);
    }

    private static void testHangs() {
        begin("17 hangs");
        StolenCup cup = withCup();
        tell(cup, 0, "s(k=0)");
        tell(cup, 1, "s(k=0&c=2)");
        tell(cup, 2, "s(k>0)");
        due("none", cup.hangs(0, 0), 0);
        give(cup, STOLEN, 1, 0, 10);
        cup.passing(0, SALE, 2, 3, 11, 5, 0, 0, 2);
        due("no law asks", cup.hangs(0, 0), 0);
        cup.passing(0, SALE, 3, 0, 12, 5, 0, 0, 1);
        due("the second", cup.hangs(0, 0), 4);
        cup.passing(0, SALE, 4, 2, 13, 5, 0, 0, 2);
        due("each alone can change it", cup.hangs(0, 0), 12);
        cup.mind(0, 3, 1, 2);
        due("4 is the owner anyhow", cup.hangs(0, 0), 0);
        cup.mind(0, 3, 0, 0);
        due("only the one ahead", cup.hangs(0, 0), 4);
        due("f", cup.hangs(-1, 0), -1);
        due("thing", cup.hangs(0, 4), -1);
    }

    private static void testAsked() {
        begin("18 asked");
        StolenCup cup = withCup();
        tell(cup, 0, "a(1=1)");
        give(cup, STOLEN, 1, 0, 10);
        sell(cup, 2, 0, 11, 70);
        sell(cup, 3, 0, 12, 130);
        sell(cup, 4, 0, 13, 0);
        int[] asks = {-2, 70, 130, 0};
        int[] gifts = {-2, 70, 100, 0};
        for (int i = 0; i < 4; i++) {
            due("asks", cup.asked(0, 0, i, 0), asks[i]);
            due("is given", cup.asked(0, 0, i, 1), gifts[i]);
        }
        tell(cup, 1, "a(x<130)");
        due("by another law", cup.sends(0, SALE, 3), true);
        tell(cup, 4, "a(c=4&k=0&e=0&j=3&d=0)");
        tell(cup, 3, "a(k=1)");
        for (int land = 1; land < 6; land++) {
            cup.sends(land, SALE, 0);
        }
        due("4's home's law", cup.asked(0, 0, 3, 0), 0);
        due("3's home's law", cup.asked(0, 0, 2, 0), -2);
        due("so 1 is not asked", cup.asked(0, 0, 1, 0), -2);
        due("f", cup.asked(6, 0, 0, 0), -1);
        due("row", cup.asked(0, 0, 4, 0), -1);
        due("what", cup.asked(0, 0, 0, 2), -1);
        give(cup, GIFT, 5, 0, 20);
        cup.sends(0, SALE, 0);
        due("behind a gift nothing is asked", cup.asked(0, 0, 3, 0), -2);
    }

    private static void testAskedTwice() {
        begin("18 asked twice of one purse");
        StolenCup cup = withCup();
        tell(cup, 0, "a(1=1)");
        give(cup, STOLEN, 1, 0, 10);
        sell(cup, 2, 0, 11, 80);
        sell(cup, 1, 0, 12, 90);
        sell(cup, 3, 0, 13, 60);
        due("3 asks 1", cup.asked(0, 0, 3, 1), 60);
        due("1 asks 2", cup.asked(0, 0, 2, 1), 90);
        due("2 asks 1, whose purse has less and got no more", cup.asked(0, 0, 1, 1), 40);
        due("2 asks for all", cup.asked(0, 0, 1, 0), 80);
        due("the purse itself stays", cup.count(31), 100);
        due("out of 1", cup.out(0, 0, 1), -80 + 90 - 60 + 60 - 90 + 40);
    }

    private static void testBack() {
        begin("19 back");
        StolenCup cup = withCup();
        due("he holds it", cup.back(0, 0), -2);
        tell(cup, 0, "b(n=1);a(1=1)");
        give(cup, STOLEN, 1, 0, 10);
        due("no sale", cup.back(0, 0), 0);
        cup.passing(0, SALE, 2, 0, 11, 200, 2, 0, 0);
        due("the price", cup.back(0, 0), 200);
        due("then nothing is asked", cup.asked(0, 0, 1, 0), -2);
        cup.passing(0, SALE, 3, 0, 12, 300, 1, 0, 0);
        due("of the last alone", cup.back(0, 0), 0);
        due("so it is asked back", cup.asked(0, 0, 2, 0), 300);
        due("and back, without b", cup.asked(0, 0, 1, 0), 200);
        due("f", cup.back(6, 0), -1);
        due("thing", cup.back(0, 1), -1);
    }

    private static void testOut() {
        begin("20 out");
        StolenCup cup = withCup();
        due("nothing went", cup.out(0, 0, 0), 0);
        sell(cup, 1, 0, 5, 45);
        due("sold below worth", cup.out(0, 0, 0), 5);
        due("bought below worth", cup.out(0, 0, 1), -5);
        give(cup, STOLEN, 2, 0, 10);
        sell(cup, 3, 0, 11, 20);
        sell(cup, 4, 0, 12, 30);
        due("1 gets it back", cup.out(0, 0, 1), -5);
        due("thief", cup.out(0, 0, 2), -20);
        due("between", cup.out(0, 0, 3), -10);
        due("last", cup.out(0, 0, 4), 30);
        tell(cup, 0, "a(1=1)");
        due("all went back", cup.out(0, 0, 4) + cup.out(0, 0, 3) + cup.out(0, 0, 2), 0);
        due("last", cup.out(0, 0, 4), 0);
        tell(cup, 0, "b(1=1)");
        due("1 paid", cup.out(0, 0, 1), 25);
        due("last was paid", cup.out(0, 0, 4), 0);
        tell(cup, 0, "s(1=1)");
        due("1 lost it", cup.out(0, 0, 1), 45);
        due("last has it", cup.out(0, 0, 4), -20);
        due("f", cup.out(6, 0, 0), -2000000000);
        due("thing", cup.out(0, 1, 0), -2000000000);
        due("person", cup.out(0, 0, 6), -2000000000);
    }

    private static void testJoined() {
        begin("21 joined");
        StolenCup cup = withCup();
        cup.thing(50, 1, 0);
        cup.thing(51, 2, 0);
        cup.thing(9, 2, 0);
        due("of like ones the first", cup.joined(0, 0, 1, 0), 0);
        due("of like ones the first", cup.joined(0, 1, 0, 0), 1);
        due("whom", cup.joined(0, 1, 0, 1), 0);
        due("how much", cup.joined(0, 1, 0, 2), 50);
        due("the greater", cup.joined(0, 0, 2, 0), 2);
        due("whom", cup.joined(0, 0, 2, 1), 0);
        due("how much", cup.joined(0, 0, 2, 2), 50);
        due("one owner", cup.joined(0, 2, 3, 0), 2);
        due("nobody", cup.joined(0, 2, 3, 1), -1);
        due("nothing", cup.joined(0, 2, 3, 2), -1);
        tell(cup, 0, "f(1=1)");
        cup.passing(2, FOUND, 5, 0, 3, 0, 0, 0, 0);
        cup.sends(1, FOUND, 0);
        due("by F", cup.joined(0, 0, 2, 0), 5);
        due("by another F", cup.joined(1, 0, 2, 0), 2);
        due("one twice", cup.joined(0, 1, 1, 0), -1);
        due("thing", cup.joined(0, 1, 4, 0), -1);
        due("what", cup.joined(0, 0, 1, 3), -1);
        due("f", cup.joined(6, 0, 1, 0), -1);
    }

    private static void testRoad() {
        begin("22 road");
        StolenCup cup = withCup();
        due("one land twice", cup.road(2, 2, 1), false);
        due("land", cup.road(6, 2, 1), false);
        due("land", cup.road(2, -1, 1), false);
        due("cost", cup.road(0, 1, -1), false);
        due("cost", cup.road(0, 1, 10001), false);
        due("road", cup.road(1, 0, 10000), true);
        tell(cup, 0, "s(1=1)");
        tell(cup, 1, "s(1=1)");
        due("both ways", cup.cheapest(2, 1, 0, 1, 2, 1), 0);
        tell(cup, 1, "a(1=1)");
        due("both ways", cup.cheapest(2, 1, 0, 1, 2, 1), 10000);
        due("cost 0, in place of the one before", cup.road(0, 1, 0), true);
        due("costs nothing", cup.cheapest(2, 1, 0, 1, 2, 1), 0);
    }

    private static void testCheapest() {
        begin("23 cheapest");
        StolenCup cup = withCup();
        tell(cup, 3, "s(m=1&n=1&k=0&x=v&r=0&c=2&e=0&j=0&l=3&h=2&o=0)");
        tell(cup, 4, "s(1=1)");
        tell(cup, 5, "s(1=1)");
        cup.road(0, 1, 10);
        cup.road(1, 3, 10);
        cup.road(0, 4, 20);
        due("of like ones the lowest", cup.cheapest(0, 0, 0, 1, 2, 0), 3);
        due("cost", cup.cheapest(0, 0, 0, 1, 2, 1), 20);
        cup.road(0, 4, 19);
        due("the cheaper", cup.cheapest(0, 0, 0, 1, 2, 0), 4);
        due("to itself", cup.cheapest(0, 5, 0, 1, 2, 1), 0);
        due("no roads", cup.cheapest(0, 2, 0, 1, 2, 0), -2);
        due("no roads", cup.cheapest(0, 2, 0, 1, 2, 1), -2);
        due("nothing stays of it", cup.count(10), 0);
        due("f", cup.cheapest(6, 0, 0, 1, 2, 0), -1);
        due("from", cup.cheapest(0, 6, 0, 1, 2, 0), -1);
        due("thing", cup.cheapest(0, 0, 1, 1, 2, 0), -1);
        due("q holds it", cup.cheapest(0, 0, 0, 0, 2, 0), -1);
        due("q", cup.cheapest(0, 0, 0, 6, 2, 0), -1);
        due("p", cup.cheapest(0, 0, 0, 1, 6, 0), -1);
        due("p is q", cup.cheapest(0, 0, 0, 1, 1, 0), -1);
        due("p is the owner", cup.cheapest(0, 0, 0, 1, 0, 0), -1);
        due("what", cup.cheapest(0, 0, 0, 1, 2, 2), -1);
        give(cup, LENT, 3, 2, 50);
        due("p holds it", cup.cheapest(0, 0, 0, 1, 3, 0), 4);
        due("q is the owner, who sells", cup.cheapest(0, 2, 0, 0, 3, 0), 2);
        for (int k = 1; k < 18; k++) {
            give(cup, LENT, 3 + k % 2, 2, 60);
        }
        due("18 passings", cup.cheapest(0, 0, 0, 1, 2, 0), 4);
        give(cup, LENT, 3, 2, 70);
        due("19 passings", cup.cheapest(0, 0, 0, 1, 2, 0), -1);
    }

    private static void testStopped() {
        begin("24 stopped");
        StolenCup cup = withCup();
        due("none needed", cup.stopped(0, 0, 0, 1, 2, 100000), 0);
        tell(cup, 1, "s(k=0);g(1=1)");
        tell(cup, 2, "s(k=0)");
        tell(cup, 3, "s(k=0)");
        cup.road(0, 1, 3);
        cup.road(1, 2, 4);
        cup.road(2, 3, 5);
        due("no money", cup.stopped(0, 0, 0, 1, 2, 2), 0);
        due("one", cup.stopped(0, 0, 0, 1, 2, 3), 2);
        due("two", cup.stopped(0, 0, 0, 1, 2, 11), 6);
        due("three", cup.stopped(0, 0, 0, 1, 2, 12), 14);
        cup.sends(2, SALE, 4);
        cup.sends(0, SALE, 0);
        due("F rules", cup.stopped(0, 0, 0, 1, 2, 12), 0);
        due("land 2 sends to land 0, that to itself", cup.stopped(2, 0, 0, 1, 2, 12), 0);
        due("land 5 sends on", cup.stopped(5, 0, 0, 1, 2, 12), 10);
        cup.thing(5, 0, 0);
        cup.passing(1, STOLEN, 3, 1, 5, 0, 0, 0, 0);
        cup.passing(1, GIFT, 4, 1, 5, 0, 0, 0, 0);
        due("a gift by land 1 is not touched", cup.stopped(5, 0, 0, 1, 2, 12), 10);
        cup.thing(5, 0, 0);
        cup.passing(2, STOLEN, 3, 1, 5, 0, 0, 0, 0);
        cup.passing(2, SALE, 4, 1, 5, 1, 0, 0, 0);
        due("a sale by land 1 is", cup.stopped(5, 0, 0, 1, 2, 12), -2);
        due("without money it is not", cup.stopped(5, 0, 0, 1, 2, 0), 0);
        cup.passing(2, SALE, 3, 0, 6, 1, 0, 0, 0);
        cup.passing(2, SALE, 0, 0, 7, 1, 0, 0, 0);
        due("it is 0's either way", cup.stopped(5, 0, 0, 1, 2, 12), 10);
        StolenCup all = withCup();
        for (int land = 0; land < 6; land++) {
            tell(all, land, "s(1=1)");
            all.road(land, 5 - land, 1);
            all.road(land, (land + 1) % 6, 1);
        }
        due("all six", all.stopped(0, 3, 0, 1, 2, 5), 63);
        due("money", cup.stopped(5, 0, 0, 1, 2, 100001), -1);
        due("money", cup.stopped(5, 0, 0, 1, 2, -1), -1);
        due("q", cup.stopped(5, 0, 0, 0, 2, 1), -1);
        due("p", cup.stopped(5, 0, 0, 1, 0, 1), -1);
        due("from", cup.stopped(5, -1, 0, 1, 2, 1), -1);
        give(cup, LENT, 5, 0, 8);
        due("the owner steals it and sells it", cup.stopped(5, 0, 0, 0, 2, 0), -2);
    }

    private static void testCheck() {
        begin("25 check");
        StolenCup cup = withCup();
        tell(cup, 0, "y(d=5)");
        give(cup, STOLEN, 1, 0, 10);
        give(cup, STOLEN, 2, 0, 16);
        due("nothing on the tape, none asked", cup.check(0, 0, 0), 0);
        cup.feed(0, 1, 2, 7, 7);
        due("too many for the tape", cup.check(0, 0, 6), -2);
        due("n", cup.check(0, 0, -1), -2);
        due("f", cup.check(6, 0, 3), -2);
        due("thing", cup.check(0, 1, 3), -2);
        due("the tape stays", cup.count(3), 20);
        due("right", cup.check(0, 0, 3), -1);
        due("the tape is empty", cup.count(3), 0);
        cup.feed(0, 1, 2, 7, 7);
        due("some are lacking", cup.check(0, 0, 2), 2);
        cup.feed(0, 1, 2, 7, 7);
        due("one too many", cup.check(0, 0, 4), 3);
        cup.feed(0, 1, 1, 7, 7);
        due("now is not so", cup.check(0, 0, 3), 2);
        cup.feed(256, 1, 2, 7, 7);
        due("the first is not so", cup.check(0, 0, 3), 0);
    }

    private static void testLook() {
        begin("26 look");
        StolenCup cup = withCup();
        give(cup, GIFT, 5, 0, 1);
        cup.passing(0, SALE, 3, 4, 77, 123456, 5, 1, 2);
        int[] right = {0, 3, 4, 77, 123456, 5, 1, 2, 5};
        for (int what = 0; what < 9; what++) {
            due("look " + what, cup.look(0, 1, what), right[what]);
        }
        due("from the first owner", cup.look(0, 0, 8), 0);
        due("what", cup.look(0, 1, 9), -1);
        due("what", cup.look(0, 1, -1), -1);
        due("row", cup.look(0, 2, 0), -1);
        due("row", cup.look(0, -1, 0), -1);
        due("thing", cup.look(1, 0, 0), -1);
    }

    private static void testCount() {
        begin("27 count");
        StolenCup cup = withCup();
        tell(cup, 5, "s(1=1);s(1=1)");
        cup.feed(0, 0, 0, 0, 0);
        give(cup, GIFT, 5, 0, 1);
        due("now", cup.count(0), 100);
        due("persons", cup.count(1), 6);
        due("things", cup.count(2), 1);
        due("bytes", cup.count(3), 20);
        due("passings", cup.count(10), 1);
        due("clauses", cup.count(25), 2);
        due("purse", cup.count(35), 100);
        int[] others = {-1, 4, 9, 11, 14, 19, 26, 29, 36, 42, 43, Integer.MAX_VALUE, Integer.MIN_VALUE};
        for (int what : others) {
            due("count(" + what + ")", cup.count(what), -1);
        }
    }
}
