/** The bounds of the texts of laws: what can stand where, the faults, and how conditions are reckoned. */
public final class EdgesOfLawsTest extends CupChecks {
    private static final String CLAUSES = "sgwfzyba";
    private static final String LETTERS = "kmnrexvdjclho";
    private static final String DIGITS = "0123456789";
    private static final String FACTORS = "[" + DIGITS + LETTERS;
    private static final String PIECES = "!(" + FACTORS;
    private static final String OPERATORS = "+-*/%";

    public static void main(String[] args) {
        everyByteAtEveryPlace();
        blanksNowhere();
        theEndToo();
        theFirstFromTheLeft();
        sixDigits();
        twelveClauses();
        the13thAtItsLetter();
        sixOpen();
        theSeventhAtIt();
        theSeventhThatCannotStandThere();
        notIsOpenTillItsPieceEnds();
        eachClauseOpensAnew();
        oneLawInPlaceOfAnother();
        oneOfALetterMustHold();
        withoutOneNoneDoes();
        onePartMustHold();
        allPiecesMust();
        comparisons();
        fromTheLeftOn();
        thirtyTwoBits();
        dividedByZero();
        asMuchAsMatters();
        deepestReckoning();
        letterOfMind();
        lettersOfSigns();
        letterOfRegister();
        letterOfWill();
        lettersOfPriceAndWorth();
        lettersOfLands();
        letterOfMonthsHeld();
        letterOfMonthsSince();
        letterOfPassingsSince();
        end("the bounds of laws are kept");
    }

    // ---- texts

    private static void everyByteAtEveryPlace() {
        begin("FAULTS: 1 what can't stand there");
        canStand("", CLAUSES);
        canStand("s", "(");
        canStand("s(", PIECES);
        canStand("s(!", PIECES);
        canStand("s((", PIECES);
        canStand("s([", FACTORS);
        canStand("s(1", DIGITS + OPERATORS + "<>=");
        canStand("s(123456", OPERATORS + "<>=", DIGITS);
        canStand("s(k", OPERATORS + "<>=");
        canStand("s([1", DIGITS + OPERATORS + "]");
        canStand("s([k", OPERATORS + "]");
        canStand("s([1]", OPERATORS + "<>=");
        canStand("s(1=[1]", OPERATORS + "&|)");
        canStand("s(1=1", DIGITS + OPERATORS + "&|)");
        canStand("s(1=k", OPERATORS + "&|)");
        canStand("s(!1=k", OPERATORS + "&|)");
        canStand("s((1=1)", "&|)");
        canStand("s(!(1=1)", "&|)");
        canStand("s(1=1&", PIECES);
        canStand("s(1=1|", PIECES);
        canStand("s(1=1)", ";");
        canStand("s(1=1);", CLAUSES);
        for (char operator : (OPERATORS + "<>=").toCharArray()) {
            canStand("s(1" + operator, FACTORS);
        }
    }

    private static void canStand(String ahead, String those) {
        canStand(ahead, those, "");
    }

    /** Behind a text those signs can stand, digits too many have a fault of their own, all other bytes can't stand. */
    private static void canStand(String ahead, String those, String tooMany) {
        for (int sign = 0; sign < 256; sign++) {
            int answer = told(ahead + (char) sign);
            int place = ahead.length();
            if (those.indexOf(sign) >= 0) {
                boolean isWhole = sign == ')' && answer == 1;
                due(ahead + (char) sign + " goes on", isWhole || answer == -1001 - place, true);
            } else {
                due(ahead + " and byte " + sign, answer, (tooMany.indexOf(sign) >= 0 ? -2000 : -1000) - place);
            }
        }
    }

    private static void blanksNowhere() {
        begin("a TEXT of at most 160 bytes, no blanks");
        String text = "s(k<12&!(m=[n+1]*3|x>v));y(1=1)";
        due("without blanks", told(text), 2);
        for (int at = 0; at <= text.length(); at++) {
            due("a blank at " + at, told(text.substring(0, at) + " " + text.substring(at)), -1000 - at);
        }
    }

    private static void theEndToo() {
        begin("FAULTS: 1 what can't stand there (the end, too)");
        String text = "s(k<12&!(m=[n+1]*3|x>v));y(1=1)";
        for (int n = 1; n < text.length(); n++) {
            due("the end at " + n, told(text.substring(0, n)), n == text.indexOf(';') ? 1 : -1000 - n);
        }
        due("the end of 160 bytes", told("s(" + times(79, "1+")), -1160);
    }

    private static void theFirstFromTheLeft() {
        begin("FAULTS, the first from the left");
        due("a seventh digit, then a sign", told("s(1234567=q)"), -2008);
        due("a sign, then a seventh digit", told("s(q=1234567)"), -1002);
        due("seven open, then a seventh digit", told("s((((((((1234567=1)"), -5007);
        due("a seventh digit, then seven open", told("s(1234567=[[[[[[[1)"), -2008);
        due("a sign in the twelfth, then a 13th", told(times(11, "s(1=1);") + "s(1=q);s(1=1)"), -1081);
        due("a 13th, then a sign", told(times(12, "s(1=1);") + "s(q"), -4084);
    }

    private static void sixDigits() {
        begin("a number of one to six digits; FAULTS: 2 a seventh digit, at it");
        due("one", told("s(0=9)"), 1);
        due("six", told("s(000000=999999)"), 1);
        due("seven on the left", told("s(0000000=1)"), -2008);
        due("seven on the right", told("s(1=1234567)"), -2010);
        due("seven in brackets", told("s([1234567]=1)"), -2009);
        due("eight", told("s(12345678=1)"), -2008);
        due("seven at the end", told("s(1234567"), -2008);
        due("six and six", told("s(123456+654321=777777)"), 1);
        dueHolds("999999=1000*1000-1", true);
        dueHolds("000010=10", true);
        dueHolds("123456+654321=777777", true);
    }

    private static void twelveClauses() {
        begin("CLAUSES (12 at most) with a ; (59) between two");
        for (int n = 1; n <= 12; n++) {
            due(n + " clauses", told(times(n - 1, "s(1=1);") + "a(1=1)"), n);
            due(n + " clauses and a ;", told(times(n, "s(1=1);")), -1000 - 7 * n);
        }
        due("two ;", told("s(1=1);;s(1=1)"), -1007);
        due("a ; ahead", told(";s(1=1)"), -1000);
        due("none between", told("s(1=1)s(1=1)"), -1006);
        due("a : (58) between", told("s(1=1):s(1=1)"), -1006);
    }

    private static void the13thAtItsLetter() {
        begin("FAULTS: 4 a 13th CLAUSE, at its letter (if that can stand there)");
        String twelve = times(12, "s(1=1);");
        for (int sign = 0; sign < 256; sign++) {
            int fault = CLAUSES.indexOf(sign) >= 0 ? -4084 : -1084;
            due("a 13th by byte " + sign, told(twelve + (char) sign + "(1=1)"), fault);
        }
        due("the end in its place", told(twelve), -1084);
        due("the end behind its letter", told(twelve + "s"), -4084);
        due("each of its own letter", told("s(1=1);g(1=1);w(1=1);f(1=1);z(1=1);y(1=1);b(1=1);a(1=1);" + times(5, "s(1=1);")),
            -4084);
    }

    private static void sixOpen() {
        begin("six of ( [ ! that are open in one another");
        due("six (", told("s((((((1=1))))))"), 1);
        due("( and five [", told("s([[[[[1]]]]]=1)"), 1);
        due("five [ on the right", told("s(1=[[[[[1]]]]])"), 1);
        due("( and five !", told("s(!!!!!1=1)"), 1);
        due("all three", told("s(!(!([1]=1)))"), 1);
        due("five open side by side", told("s((((((1=1)|(1=1)))&(!1=[1]))))"), 1);
    }

    private static void theSeventhAtIt() {
        begin("FAULTS: 5 a seventh of ( [ ! that are open in one another, at it (the ( of the CLAUSE counts)");
        due("seven (", told("s(((((((1=1)))))))"), -5007);
        due("( and six [", told("s([[[[[[1]]]]]]=1)"), -5007);
        due("six [ on the right", told("s(1=[[[[[[1]]]]]])"), -5009);
        due("( and six !", told("s(!!!!!!1=1)"), -5007);
        due("a ! in six (", told("s((((((!1=1))))))"), -5007);
        due("a [ in six (", told("s(((((([1]=1))))))"), -5007);
        due("a ( in five !", told("s(!!!!!(1=1))"), -5007);
        due("a [ behind an operator", told("s((((((1+[1]=1))))))"), -5009);
        due("behind a whole piece", told("s((((((1=1&(1=1)))))))"), -5011);
        due("it is the end", told("s((((((("), -5007);
    }

    private static void theSeventhThatCannotStandThere() {
        begin("FAULTS: 1 what can't stand there, though it were the seventh");
        due("a ( in place of a factor", told("s((((((1+(1=1))))))"), -1009);
        due("a ! in place of a factor", told("s((((((1=!1))))))"), -1009);
        due("a ( in brackets", told("s([[[[[(1]]]]]=1)"), -1007);
        due("a [ behind a factor", told("s((((((1[1]=1))))))"), -1008);
        due("the end behind six", told("s(((((("), -1007);
    }

    private static void notIsOpenTillItsPieceEnds() {
        begin("a ! is open till its PIECE ends");
        due("in its comparison", told("s(!!!!!1=[1])"), -5009);
        due("in its comparison, one fewer", told("s(!!!!1=[1])"), 1);
        due("its piece ends at an &", told("s(!!!!!1=1&!!!!!1=1)"), 1);
        due("its piece ends at a |", told("s(!!!!!1=1|[[[[[1]]]]]=1)"), 1);
        due("its piece ends with its )", told("s(!!!!(1=1)&((((1=1)))))"), 1);
        due("two pieces at once", told("s(!(!(!1=1)&!!!1=1)&(((((1=1))))))"), 1);
        due("but not the outer one", told("s(!(!(!1=1)&!!!!1=1))"), -5015);
    }

    private static void eachClauseOpensAnew() {
        begin("5: open in one another, CLAUSE by CLAUSE");
        due("six in each", told("s((((((1=1))))));g([[[[[1]]]]]=1);y(!!!!!1=1)"), 3);
        due("seven in the second", told("s((((((1=1))))));g(((((((1=1)))))))"), -5024);
        due("many side by side", told("s(" + times(11, "(((((1=1)))))&") + "1=1)"), 1);
    }

    private static void oneLawInPlaceOfAnother() {
        begin("8: in place of the one before; a FAULT (the law before stays)");
        StolenCup cup = withCup();
        give(cup, STOLEN, 1, 0, 10);
        sell(cup, 2, 0, 12, 30);
        String longest = "s(" + times(77, "1+");
        for (int round = 0; round < 10; round++) {
            due("160 bytes", tell(cup, 0, longest + "1>9)"), 1);
            due("it holds", cup.whose(0, 0), 2);
            due("a fault", tell(cup, 0, longest + "1<9q"), -1159);
            due("it holds yet", cup.whose(0, 0), 2);
            due("another", tell(cup, 0, longest + "1<9)"), 1);
            due("which does not hold", cup.whose(0, 0), 0);
        }
    }

    // ---- what holds

    private static void oneOfALetterMustHold() {
        begin("Of more than one of a letter one must hold");
        dueHolds("1=1);s(1=0", true);
        dueHolds("1=0);s(1=1", true);
        dueHolds("1=0);s(1=0", false);
        dueHolds("1=0);g(1=1);s(1=1", true);
        dueHolds("1/0=1);s(1=1", true);
        StringBuilder last = new StringBuilder();
        for (int k = 0; k < 11; k++) {
            last.append("1=0);s(");
        }
        dueHolds(last + "1=1", true);
        dueHolds(last + "1=0", false);
    }

    private static void withoutOneNoneDoes() {
        begin("without one none does");
        for (char letter : CLAUSES.toCharArray()) {
            StolenCup cup = withCup();
            tell(cup, 0, letter + "(1=1)");
            give(cup, STOLEN, 1, 0, 98);
            cup.passing(0, SALE, 2, 0, 100, 30, 0, 0, 0);
            // Where time made the thief the owner, he sold what was his.
            boolean gives = letter == 's' || letter == 'y';
            due("s, y by " + letter, cup.whose(0, 0), gives ? 2 : 0);
            due("b by " + letter, cup.back(0, 0), gives ? -2 : letter == 'b' ? 30 : 0);
            due("a by " + letter, cup.asked(0, 0, 1, 0), letter == 'a' ? 30 : -2);
            due("y by " + letter, cup.when(0, 0, 0, 0), letter == 'y' ? 99 : -1);
        }
    }

    private static void onePartMustHold() {
        begin("C: PARTS with a | between two, one of which must hold");
        dueHolds("1=1|1=0", true);
        dueHolds("1=0|1=1", true);
        dueHolds("1=0|1=0", false);
        dueHolds("1=0|1=0|1=0|1=1", true);
        dueHolds("1=0|1=1&1=0|1=0", false);
    }

    private static void allPiecesMust() {
        begin("a PART: PIECES with an & between two, all of which must; a PIECE: !PIECE, (C), or E");
        dueHolds("1=1&1=1", true);
        dueHolds("1=1&1=0", false);
        dueHolds("1=0&1=1", false);
        dueHolds("1=1&1=1&1=1&1=0", false);
        dueHolds("!1=1", false);
        dueHolds("!1=0", true);
        dueHolds("!!1=1", true);
        dueHolds("!!!!!1=1", false);
        dueHolds("!1=0&1=0", false);
        dueHolds("!1=1|1=1", true);
        dueHolds("!(1=1|1=1)", false);
        dueHolds("(1=0|1=1)&(1=1|1=0)", true);
    }

    private static void comparisons() {
        begin("E, one of < > =, and E");
        int[][] pairs = {{0, 1}, {1, 1}, {2, 1}};
        for (int[] pair : pairs) {
            dueHolds(pair[0] + "<" + pair[1], pair[0] < pair[1]);
            dueHolds(pair[0] + ">" + pair[1], pair[0] > pair[1]);
            dueHolds(pair[0] + "=" + pair[1], pair[0] == pair[1]);
        }
        dueHolds("32767*65536+65535>32768*65536", true);
        dueHolds("32768*65536<32767*65536+65535", true);
    }

    private static void fromTheLeftOn() {
        begin("E: TERMS with + or - between two; a TERM: FACTORS with one of * / % between two; from the left on");
        dueHolds("9-4-3=2", true);
        dueHolds("9-[4-3]=8", true);
        dueHolds("9-4+3=8", true);
        dueHolds("64/8/2=4", true);
        dueHolds("64/[8/2]=16", true);
        dueHolds("7*5%4/3=1", true);
        dueHolds("7/2*2=6", true);
        dueHolds("7%4*2=6", true);
        dueHolds("1+2*3-8/4=5", true);
        dueHolds("[1+2]*[3-8]/4=0-3", true);
    }

    private static void thirtyTwoBits() {
        begin("All is reckoned with 32 bits, as the machine does");
        String greatest = "[32767*65536+65535]";
        String least = "[32768*65536]";
        dueHolds(greatest + "+1=" + least, true);
        dueHolds(least + "-1=" + greatest, true);
        dueHolds(greatest + "*2=0-2", true);
        dueHolds(least + "*2=0", true);
        dueHolds("0-" + least + "=" + least, true);
        dueHolds(least + "/[0-1]=" + least, true);
        dueHolds(least + "%[0-1]=0", true);
        dueHolds("[0-7]/2=0-3", true);
        dueHolds("7/[0-2]=0-3", true);
        dueHolds("[0-7]%2=0-1", true);
        dueHolds("7%[0-2]=1", true);
        dueHolds("999999*999999=0-729379967", false);
        dueHolds("999999*999999=0-729379*1000-967", true);
    }

    private static void dividedByZero() {
        begin("what is divided by 0 is REFUSED: then C does not hold");
        dueHolds("1/0=0", false);
        dueHolds("1%0=0", false);
        dueHolds("0/0=0", false);
        dueHolds("0%0=0", false);
        dueHolds("!1/0=0", false);
        dueHolds("!1%0=0", false);
        dueHolds("!!1/0=0", false);
        dueHolds("!(1/0=0)", false);
        dueHolds("1=[5/[k-k]]", false);
        dueHolds("0*[1/0]=0", false);
        dueHolds("1/0=0|1=1", false);
        dueHolds("1/1=1", true);
        dueHolds("1%1=0", true);
        dueHolds("1/[0-1]=0-1", true);
        dueHolds("0/1=0", true);
        dueHolds("1/[65536*65536]=0", false);
    }

    private static void asMuchAsMatters() {
        begin("Of a C as much is asked, from the left, as matters");
        dueHolds("1=1|1/0=0", true);
        dueHolds("1=0|1/0=0", false);
        dueHolds("1=0&1/0=0|1=1", true);
        dueHolds("1=1&1/0=0|1=1", false);
        dueHolds("!(1=0&1/0=0)", true);
        dueHolds("!(1=1|1/0=0)", false);
        dueHolds("!(1=1|1/0=0)|1=1", true);
        dueHolds("(1=1|1/0=0)&1=1", true);
        dueHolds("(1=1|1/0=0)&(1=0|1/0=0)", false);
        dueHolds("1=0&(1=1|1/0=0)|1=0|1=1|1/0=0", true);
        dueHolds("1=1&1=0&1/0=0|1=1", true);
    }

    private static void deepestReckoning() {
        begin("six open, each with something left to be reckoned");
        dueHolds("1+2*[1+2*[1+2*[1+2*[1+2*3]]]]=127", true);
        dueHolds("127=1+2*[1+2*[1+2*[1+2*[1+2*3]]]]", true);
        dueHolds("1=0|1=1&(1=0|1=1&(1=0|1=1&(1=0|1=1&(1=0|1=1&(1=0|1=1)))))", true);
        dueHolds("1=0|1=1&(1=0|1=1&(1=0|1=1&(1=0|1=1&(1=0|1=1&(1=0|1=0)))))", false);
        dueHolds(times(76, "1+") + "1=77", true);
    }

    // ---- letters

    /** A sale of land 1 in month 17, from 1, who had it lent in month 10: whether a condition holds for it. */
    private static boolean isHoldingFor(String condition, int signsAhead, int signs, int mind) {
        StolenCup cup = withCup();
        cup.passing(0, LENT, 1, 4, 10, 0, signsAhead, 0, 0);
        cup.passing(0, SALE, 3, 1, 17, 30, signs, mind, mind);
        tell(cup, 1, "s(" + condition + ")");
        return cup.whose(0, 0) == 3;
    }

    private static void letterOfMind() {
        begin("k MIND of him TO whom it went (0 nothing, 1 he might have known, 2 he knew)");
        for (int mind = 0; mind <= 2; mind++) {
            for (int asked = 0; asked <= 3; asked++) {
                due("k=" + asked + " by " + mind, isHoldingFor("k=" + asked, 0, 0, mind), asked == mind);
            }
        }
    }

    private static void lettersOfSigns() {
        begin("m MARKET, n MERCHANT (1, 0)");
        for (int signs = 0; signs < 8; signs++) {
            due("m of " + signs, isHoldingFor("m=" + (signs & 1), 7, signs, 0), true);
            due("n of " + signs, isHoldingFor("n=" + (signs >> 1 & 1), 0, signs, 0), true);
        }
    }

    private static void letterOfRegister() {
        begin("r whether THE REGISTER said him FROM whom it came, ahead of it (1, 0)");
        for (int ahead = 0; ahead < 8; ahead++) {
            for (int signs = 0; signs < 8; signs++) {
                due("r, put into it by " + ahead + ", " + signs, isHoldingFor("r=" + (ahead >> 2), ahead, signs, 0), true);
            }
        }
        StolenCup cup = withCup();
        tell(cup, 0, "f(r=1)");
        give(cup, FOUND, 1, 0, 10);
        due("the first owner, ahead of the first", cup.whose(0, 0), 1);
        give(cup, FOUND, 2, 0, 11);
        due("it says the first owner yet", cup.whose(0, 0), 1);
    }

    private static void letterOfWill() {
        begin("e whether it left the OWNER's hands by his will (LENT, PAWN: 1; else 0)");
        for (int kind = PAWN; kind <= SEIZED; kind++) {
            StolenCup cup = withCup();
            give(cup, kind, 1, 0, 10);
            give(cup, kind == LENT ? STOLEN : LENT, 2, 0, 11);
            sell(cup, 3, 0, 12, 5);
            tell(cup, 0, "s(e=" + bit(kind == PAWN || kind == LENT) + ")");
            due("by kind " + kind, cup.whose(0, 0), 3);
        }
    }

    private static void lettersOfPriceAndWorth() {
        begin("x the PRICE, v WORTH");
        int[][] cases = {{0, 1}, {1000000, 1000000}, {999999, 1}};
        for (int[] one : cases) {
            StolenCup cup = withPersons(3);
            cup.thing(one[1], 0, 0);
            give(cup, STOLEN, 1, 0, 0);
            sell(cup, 2, 0, 0, one[0]);
            tell(cup, 0, "s(x/10*10+x%10=" + one[0] / 10 + "*10+" + one[0] % 10 + "&v=" + one[1] / 10 + "*10+" + one[1] % 10 + ")");
            due("price " + one[0] + ", worth " + one[1], cup.whose(0, 0), 2);
        }
        StolenCup gift = withCup();
        give(gift, STOLEN, 1, 0, 0);
        give(gift, GIFT, 2, 0, 0);
        tell(gift, 0, "g(x=0)");
        due("no price of a gift", gift.whose(0, 0), 2);
    }

    private static void lettersOfLands() {
        begin("l the LAND of the PASSING, h HOME of him TO whom, o HOME of the OWNER");
        for (int land = 0; land < 6; land++) {
            StolenCup cup = new StolenCup();
            cup.person((land + 1) % 6, 0);
            cup.person((land + 2) % 6, 0);
            cup.person((land + 3) % 6, 0);
            cup.thing(1, 0, (land + 4) % 6);
            give(cup, STOLEN, 1, (land + 5) % 6, 0);
            give(cup, GIFT, 2, land, 0);
            tell(cup, land, "g(l=" + land + "&h=" + (land + 3) % 6 + "&o=" + (land + 1) % 6 + ")");
            due("land " + land, cup.whose(0, 0), 2);
        }
    }

    private static void letterOfMonthsHeld() {
        begin("d for how many MONTHS he HOLDS it (0 but in a y)");
        for (String letter : new String[] {"s", "a", "b"}) {
            StolenCup cup = withCup();
            give(cup, STOLEN, 1, 0, 10);
            sell(cup, 2, 0, 20, 7);
            tell(cup, 0, letter + "(d=0)");
            due("d in " + letter, cup.whose(0, 0) == 2 || cup.back(0, 0) == 7 || cup.asked(0, 0, 1, 0) == 7, true);
            tell(cup, 0, letter + "(!d=0)");
            due("d in " + letter, cup.whose(0, 0) == 2 || cup.back(0, 0) == 7 || cup.asked(0, 0, 1, 0) == 7, false);
            tell(cup, 0, "y(d>500);" + letter + "(d=0)");
            due("d in " + letter + ", with a y", cup.whose(0, 0) == 2 || cup.back(0, 0) == 7 || cup.asked(0, 0, 1, 0) == 7,
                true);
        }
        StolenCup cup = withCup();
        give(cup, STOLEN, 1, 0, 0);
        cup.now(599);
        tell(cup, 0, "y(d<1)");
        due("never 0 in a y", cup.whose(0, 0), 0);
        tell(cup, 0, "y(d=1)");
        due("the first", cup.when(0, 0, 0, 0), 1);
        tell(cup, 0, "y(d=599)");
        due("the last", cup.when(0, 0, 0, 0), 599);
        tell(cup, 0, "y(d>599)");
        due("no more", cup.when(0, 0, 0, 0), -1);
    }

    private static void letterOfMonthsSince() {
        begin("j MONTHS since it left the OWNER's hands");
        StolenCup cup = withCup();
        cup.now(599);
        give(cup, STOLEN, 1, 0, 0);
        sell(cup, 2, 0, 599, 7);
        tell(cup, 0, "s(j=599)");
        due("the longest", cup.whose(0, 0), 2);
        cup = withCup();
        give(cup, STOLEN, 1, 0, 50);
        sell(cup, 2, 0, 50, 7);
        tell(cup, 0, "s(j=0)");
        due("the shortest", cup.whose(0, 0), 2);
        tell(cup, 0, "y(j=50)");
        due("in a y, to that month", cup.when(0, 0, 1, 0), 100);
        tell(cup, 0, "y(j=0)");
        due("in a y, the first month is 1", cup.when(0, 0, 1, 0), -1);
    }

    private static void letterOfPassingsSince() {
        begin("c how many PASSINGS went since then (that one is 1; those behind it; the one at hand, too)");
        StolenCup cup = withCup();
        give(cup, LENT, 1, 0, 10);
        tell(cup, 0, "y(c=1);s(c=20)");
        due("that one is 1", cup.when(0, 0, 0, 0), 11);
        tell(cup, 0, "s(c=20)");
        for (int k = 1; k < 19; k++) {
            give(cup, k % 2 == 0 ? SALE : STOLEN, 1 + k % 2, 0, 20);
        }
        due("not by the 19th", cup.whose(0, 0), 0);
        sell(cup, 3, 0, 30, 1);
        due("the 20th", cup.whose(0, 0), 3);
        due("by it", cup.when(0, 0, 19, 1), 1);
    }
}
