/** The boundary cases of promises 9 and 10: THE ROAD that is read, its FAULTS, and THE ERRAND. */
public final class BoundariesRoad extends Boundary {
    private static final String SHOP = "shop 0 0 1 1;";
    private static final String TWO = "shop 0 0 1 1;shop 0 0 1 1;";
    private static final String SIX = "shop 0 1 1 9;shop 0 1 1 9;shop 0 1 1 9;shop 0 1 1 9;shop 0 1 1 9;shop 0 1 1 9;";

    public static void main(String[] args) {
        runAll(BoundariesRoad.class, 9, 10);
    }

    /** The mark ^ stands ahead of the byte where the FAULT is, and is not typed. */
    private static void fault(String marked) {
        int place = marked.indexOf('^');
        String text = marked.replace("^", "");
        State typed = x -> type(x, text);
        answered(typed, -10 - place, NextDoor::read);
        answered(and(Boundary::busy, x -> {
            x.clear();
            type(x, text);
        }), -10 - place, NextDoor::read);
    }

    /** The text is read, and the street is then as those calls make it. */
    private static void reads(String text, int items, State calls) {
        leaves(x -> type(x, text), items, NextDoor::read, and(calls, x -> type(x, text)));
    }

    private static void shops(NextDoor x, int many) {
        for (int i = 0; i < many; i++) {
            x.shop(0, 0, 1, 1);
        }
    }

    // ---- 9: "THE ROAD is read: how many ITEMS. -10 less the FAULT: all stays." ---- what is read

    static void promise9_read_anEmptyTextIsNoFault() {
        NextDoor x = made(Boundary::busy);
        x.clear();
        due("no ITEMS", x.read(), 0);
        due("takes the place of all SHOPS", x.digest(), hash(0, 0, 0, 2, 0, 60, 4, 2, 50, 1, 13));
        answered(Boundary::empty, 0, NextDoor::read);
    }

    static void promise9_read_aTextOfBlanksIsNoFault() {
        NextDoor x = made(Boundary::busy);
        due("no ITEMS", read(x, " "), 0);
        due("no SHOPS", x.count(0), 0);
        due("no ITEMS", read(x, " ".repeat(200)), 0);
    }

    static void promise9_read_takesThePlaceOfShopsNeighboursFreeAndTheErrand() {
        NextDoor x = made(Boundary::full);
        due("one ITEM", read(x, "shop 1 2 3 4;"), 1);
        x.clear();
        x.leave();
        due("one SHOP alone", x.digest(), hash(1, 0, 0, 0, 1, 2, 3, 4, 0, 0, 60, 4));
    }

    static void promise9_read_leavesPurseArmsBuyersTextAndImages() {
        NextDoor x = made(Boundary::busy);
        read(x, SHOP);
        due("digest", x.digest(), hash(1, 0, 13, 2, 0, 0, 1, 1, 0, 0, 60, 4, 's', 'h', 'o', 'p', ' ', '0', ' ', '0', ' ', '1', ' ', '1', ';', 2, 50, 1, 13));
        due("the IMAGE", x.from(1), 1);
        due("its SHOPS", x.count(0), 3);
    }

    static void promise9_read_theSameTextTwiceIsTheSame() {
        State once = x -> read(x, TWO + "next 0 1;free 1;buy 1;");
        leaves(once, 5, NextDoor::read, once);
    }

    static void promise9_read_eachItemCounts() {
        reads(TWO + "next 1 0;free 1;buy 1;", 5, x -> {
            shops(x, 2);
            x.next(0, 1, true);
            x.free(1, true);
            // No call but read brings an ERRAND.
            read(x, TWO + "next 1 0;free 1;buy 1;");
            x.clear();
        });
        reads("shop 5 20 30 240;", 1, x -> x.shop(5, 20, 30, 240));
        reads("shop 0 0 1 0;", 1, x -> x.shop(0, 0, 1, 0));
    }

    static void promise9_read_oneToThreeFiguresAreOneNumber() {
        reads("shop 5 1 2 3;", 1, x -> x.shop(5, 1, 2, 3));
        reads("shop 05 01 02 03;", 1, x -> x.shop(5, 1, 2, 3));
        reads("shop 005 001 002 003;", 1, x -> x.shop(5, 1, 2, 3));
        reads("shop 000 020 030 240;", 1, x -> x.shop(0, 20, 30, 240));
    }

    static void promise9_read_blanksBetweenTokensAreNoTokens() {
        reads("  shop   5  1 2    3  ;   ", 1, x -> x.shop(5, 1, 2, 3));
        reads("shop5 1 2 3;", 1, x -> x.shop(5, 1, 2, 3));
    }

    static void promise9_read_sixShopsAreRead() {
        reads(SHOP.repeat(6), 6, x -> shops(x, 6));
    }

    static void promise9_read_twelveBuysAreRead() {
        NextDoor x = new NextDoor();
        due("ITEMS", read(x, SHOP + "buy 0;".repeat(12)), 13);
        due("SHOPS of THE ERRAND", x.count(1), 12);
    }

    static void promise9_read_freeAndBuyMayBeToldTwice() {
        reads(SHOP + "free 0;free 0;", 3, x -> {
            shops(x, 1);
            x.free(0, true);
        });
        NextDoor x = new NextDoor();
        due("ITEMS", read(x, SHOP + "buy 0;buy 0;"), 3);
        due("in their order", x.count(1), 2);
    }

    static void promise9_read_theErrandIsInItsOrder() {
        NextDoor x = new NextDoor();
        read(x, TWO + "buy 1;buy 0;buy 1;");
        x.clear();
        due("digest", x.digest(), hash(2, 3, 0, 0, 0, 0, 1, 1, 0, 0, 0, 1, 1, 0, 0, 999, 6, 1, 0, 1));
    }

    static void promise9_read_itemsMayStandInAnyOrder() {
        reads(SHOP + "free 0;" + SHOP + "next 0 1;" + SHOP + "next 2 0;", 6, x -> {
            shops(x, 3);
            x.free(0, true);
            x.next(0, 1, true);
            x.next(0, 2, true);
        });
    }

    static void promise9_read_200BytesAreRead() {
        String text = SHOP + " ".repeat(200 - 2 * SHOP.length()) + SHOP;
        reads(text, 2, x -> shops(x, 2));
    }

    static void promise9_read_nothingBehindTheEndIsRead() {
        NextDoor x = new NextDoor();
        due("a longer one", read(x, "shop 0 0 1 1111;"), -10 - 11);
        due("a shorter one ends too early", read(x, "shop 0 0 1 1"), -10 - 12);
        due("a longer one", read(x, "shopshop 0 0 1 1;"), -10);
        due("a shorter one ends too early", read(x, "shop"), -10 - 4);
        due("a longer one", read(x, "     " + SHOP), 1);
        due("a shorter one", read(x, "    "), 0);
    }

    // ---- 9: the FAULTS

    static void promise9_read_faultLeavesAll() {
        answered(and(Boundary::full, x -> {
            x.clear();
            type(x, SHOP + "free 0;buy 0;buy");
        }), -10 - 29, NextDoor::read);
    }

    static void promise9_read_faultAt0IsMinus10() {
        fault("^x");
    }

    static void promise9_read_faultAt200IsMinus210() {
        fault(" ".repeat(196) + "shop^");
        fault(SHOP + " ".repeat(182) + "buy 0^");
    }

    static void promise9_read_faultAt199() {
        fault(" ".repeat(199) + "^x");
        fault(" ".repeat(199) + "^1");
        fault(" ".repeat(199) + "^;");
        fault(" ".repeat(199) + "^!");
    }

    static void promise9_read_aWordThatIsNone() {
        for (String word : new String[] {"s", "sho", "shops", "shopp", "shoq", "shpo", "nex", "nexts", "mext", "fre", "frees", "freed", "bu", "buys", "bux", "auy", "z", "shopa", "shopz", "nexta", "freez", "buyz", "shopshop"}) {
            fault("^" + word + " 0 0 1 1;");
            fault(SHOP + "  ^" + word + " 0;");
        }
    }

    static void promise9_read_wordsOfOtherLettersAreNone() {
        fault("^Shop 0 0 1 1;");
        fault("^SHOP 0 0 1 1;");
        fault("^shoP 0 0 1 1;");
    }

    static void promise9_read_aNumberOrAStopWhereAWordIsDue() {
        fault("^0 shop 0 0 1 1;");
        fault(SHOP + "^7;");
        fault("^;");
        fault(SHOP + "^;");
        fault(SHOP + " ^;");
    }

    static void promise9_read_aWordWhereANumberIsDue() {
        fault("shop ^shop 0 0 1 1;");
        fault("shop 0 ^x 1 1;");
        fault("shop 0 0 ^free 1;");
        fault("shop 0 0 1 ^buy;");
        fault(TWO + "next ^a 1;");
        fault(TWO + "next 0 ^b;");
        fault(SHOP + "free ^x;");
        fault(SHOP + "buy ^x;");
    }

    static void promise9_read_aStopWhereANumberIsDue() {
        fault("shop^;");
        fault("shop 0 ^;");
        fault("shop 0 0 ^;");
        fault("shop 0 0 1 ^;");
        fault(TWO + "next ^;");
        fault(TWO + "next 0^;");
        fault(SHOP + "free^;");
        fault(SHOP + "buy ^;");
    }

    static void promise9_read_noStopWhereItIsDue() {
        fault("shop 0 0 1 1 ^1;");
        fault("shop 0 0 1 1 ^shop 0 0 1 1;");
        fault(TWO + "next 0 1 ^0;");
        fault(TWO + "next 0 1 ^next 0 1;");
        fault(SHOP + "free 0 ^0;");
        fault(SHOP + "free 0 ^free 0;");
        fault(SHOP + "buy 0 ^0;");
        fault(SHOP + "buy 0 ^buy 0;");
    }

    static void promise9_read_kindOutOf0To5() {
        fault("shop ^6 0 1 1;");
        fault("shop ^10 0 1 1;");
        fault("shop ^999 0 1 1;");
        reads("shop 5 0 1 1;", 1, x -> x.shop(5, 0, 1, 1));
    }

    static void promise9_read_priceOutOf0To20() {
        fault("shop 0 ^21 1 1;");
        fault("shop 0 ^999 1 1;");
        reads("shop 0 20 1 1;", 1, x -> x.shop(0, 20, 1, 1));
    }

    static void promise9_read_minutesOutOf1To30() {
        fault("shop 0 0 ^0 1;");
        fault("shop 0 0 ^000 1;");
        fault("shop 0 0 ^31 1;");
        fault("shop 0 0 ^999 1;");
        reads("shop 0 0 30 1;", 1, x -> x.shop(0, 0, 30, 1));
    }

    static void promise9_read_shutOutOf0To240() {
        fault("shop 0 0 1 ^241;");
        fault("shop 0 0 1 ^999;");
        reads("shop 0 0 1 240;", 1, x -> x.shop(0, 0, 1, 240));
    }

    static void promise9_read_aNumberOfFourFiguresAtItsFirst() {
        fault("shop ^0000 0 1 1;");
        fault("shop 0 ^0001 1 1;");
        fault("shop 0 0 ^0001 1;");
        fault("shop 0 0 1 ^0001;");
        fault("shop 0 0 1 ^0001");
        fault("shop ^12345678901234567890 0 1 1;");
        fault("shop ^4294967296 0 1 1;");
        fault(TWO + "next ^0000 1;");
        fault(TWO + "next 0 ^0001;");
        fault(SHOP + "free ^0000;");
        fault(SHOP + "buy ^0000;");
    }

    static void promise9_read_a7thShopAtItsWord() {
        fault(SHOP.repeat(6) + "^" + SHOP);
        fault(SHOP.repeat(6) + "  ^shop");
        fault(SHOP.repeat(6) + "^shop 9 9 9 9;");
    }

    static void promise9_read_a13thBuyAtItsWord() {
        fault(SHOP + "buy 0;".repeat(12) + "^buy 0;");
        fault(SHOP + "buy 0;".repeat(12) + "  ^buy");
        fault(SHOP + "buy 0;".repeat(12) + "^buy 9;");
    }

    static void promise9_read_nextOfWhatIsNoShopAhead() {
        fault("next ^0 1;");
        fault(SHOP + "next ^1 0;");
        fault(SHOP + "next 0 ^1;");
        fault(TWO + "next 0 ^2;");
        fault(TWO + "next ^2 0;");
        fault(SHOP + "next 0 ^1;" + SHOP);
    }

    static void promise9_read_nextOfTwoAlike() {
        fault(SHOP + "next 0 ^0;");
        fault(TWO + "next 1 ^1;");
        fault(TWO + "next 01 ^1;");
    }

    static void promise9_read_nextThatWasToldYet() {
        fault(TWO + "next 0 1;next 0 ^1;");
        fault(TWO + "next 0 1;next 1 ^0;");
        fault(TWO + "next 1 0;next 1 ^0;");
        fault(TWO + "next 1 0;free 0;next 0 ^001;");
    }

    static void promise9_read_nextOfTheStreetOfBeforeWasNotTold() {
        NextDoor x = made(Boundary::busy);
        due("0 and 1 are NEIGHBOURS", x.next(0, 1, true), NO);
        due("but not told in this text", read(x, TWO + "next 0 1;"), 3);
    }

    static void promise9_read_freeOfWhatIsNoShopAhead() {
        fault("free ^0;");
        fault("free ^0;" + SHOP);
        fault(SHOP + "free ^1;");
        fault(SHOP + "free ^999;");
        fault(SIX + "free ^6;");
    }

    static void promise9_read_buyOfWhatIsNoShopAhead() {
        fault("buy ^0;");
        fault("buy ^0;" + SHOP);
        fault(SHOP + "buy ^1;");
        fault(SHOP + "buy ^999;");
        fault(SIX + "buy ^6;");
    }

    static void promise9_read_aByteThatBeginsNoToken() {
        for (int sign : new int[] {0, 1, 9, 10, 13, 31, 33, '-', '.', '/', ':', '<', 'A', 'Z', '@', '`', '{', 127, 128, 160, 187, 255}) {
            char c = (char) sign;
            fault("^" + c);
            fault("shop ^" + c + "1 1 1 1;");
            fault("shop 1^" + c + " 1 1 1;");
            fault("shop 0 0 1 1^" + c + ";");
            fault("shop^" + c + " 0 0 1 1;");
            fault(SHOP + "^" + c + SHOP);
            fault("^s" + c + "hop 0 0 1 1;");
        }
    }

    static void promise9_read_endsTooEarlyIsTheTextsLength() {
        String[] begun = {"shop", "shop ", "shop 0", "shop 0 ", "shop 0 0", "shop 0 0 1", "shop 0 0 1 1", "shop 0 0 1 1   ", TWO + "next", TWO + "next 0",
            TWO + "next 0 1", SHOP + "free", SHOP + "free 0", SHOP + "buy", SHOP + "buy 0", SHOP + "buy 0  "};
        for (String text : begun) {
            fault(text + "^");
        }
    }

    static void promise9_read_theFirstFaultCounts() {
        fault("shop ^6 21 0 241;");
        fault("shop 0 ^21 0 241;");
        fault("^shops 6;");
        fault("shop 0 0 1 ^241");
        fault("shop 0 ^- 0 0001;");
        fault(SHOP + "next ^1 1;");
        fault(SHOP + "next 0 ^0 0;");
        fault(SHOP + "next 0 ^0");
    }

    // ---- 10: "Of THE ERRAND: WHY: 10 times the place, and why (what = 0; NONE: it MAY be); of its SHOPS ahead of that one: .."

    private static void errand(State state, int why, int paid, int minute, int holds) {
        answered(state, why, x -> x.errand(0));
        answered(state, paid, x -> x.errand(1));
        answered(state, minute, x -> x.errand(2));
        answered(state, holds, x -> x.errand(3));
    }

    private static void errand(String text, int why, int paid, int minute, int holds) {
        errand(road(text), why, paid, minute, holds);
    }

    private static State with(String text, int purse, int arms) {
        return and(road(text), x -> {
            x.put(0, purse);
            x.put(1, arms);
        });
    }

    static void promise10_errand_anotherWhatIsBad() {
        for (int what : new int[] {-1, 4, LEAST, MOST}) {
            badEverywhere(x -> x.errand(what));
        }
    }

    static void promise10_errand_ofNoShopsMayBe() {
        errand(Boundary::empty, NONE, 0, 0, 0);
        errand("shop 0 1 1 1;", NONE, 0, 0, 0);
    }

    static void promise10_errand_beginsAtAFreeOne() {
        errand("shop 0 7 4 240;buy 0;", 1, 0, 0, 0);
        errand("shop 0 7 4 240;shop 0 7 4 240;free 1;buy 0;", 1, 0, 0, 0);
        errand("shop 0 7 4 240;free 0;buy 0;", NONE, 7, 4, 1);
    }

    static void promise10_errand_goesOnToANeighbour() {
        String two = "shop 0 7 4 240;shop 0 5 2 240;free 0;free 1;";
        errand(two + "buy 0;buy 1;", 11, 7, 4, 1);
        errand(two + "next 0 1;buy 0;buy 1;", NONE, 12, 6, 3);
        errand(two + "next 1 0;buy 1;buy 0;", NONE, 12, 6, 3);
    }

    static void promise10_errand_comesToEachOnce() {
        errand("shop 0 7 4 240;shop 0 5 2 240;free 0;next 0 1;buy 0;buy 1;buy 0;", 22, 12, 6, 3);
        // What was bought there was given since: one was there all the same.
        errand("shop 0 7 4 240;shop 2 5 2 240;free 0;next 0 1;buy 0;buy 1;buy 0;", 22, 9, 6, 2);
    }

    static void promise10_errand_oneIsNoNeighbourOfItself() {
        errand("shop 0 7 4 240;free 0;buy 0;buy 0;", 11, 7, 4, 1);
    }

    static void promise10_errand_isServedByShutToTheMinute() {
        errand("shop 0 7 4 4;free 0;buy 0;", NONE, 7, 4, 1);
        errand("shop 0 7 4 3;free 0;buy 0;", 4, 0, 0, 0);
        errand("shop 0 7 1 0;free 0;buy 0;", 4, 0, 0, 0);
        errand("shop 0 7 4 240;shop 0 5 2 6;free 0;next 0 1;buy 0;buy 1;", NONE, 12, 6, 3);
        errand("shop 0 7 4 240;shop 0 5 2 5;free 0;next 0 1;buy 0;buy 1;", 14, 7, 4, 1);
    }

    static void promise10_errand_theLastMinuteIs240() {
        String slow = "shop 3 0 30 240;shop 3 0 30 240;shop 3 0 30 240;shop 3 0 30 240;shop 0 0 1 240;free 0;next 0 1;next 1 2;next 2 3;next 3 4;";
        errand(slow + "buy 0;buy 1;buy 2;buy 3;", NONE, 6, 240, 15);
        errand(slow + "buy 0;buy 1;buy 2;buy 3;buy 4;", 44, 6, 240, 15);
    }

    static void promise10_errand_holdsNoMoreThanArms() {
        String six = SIX + "free 0;next 0 1;next 1 2;next 2 3;next 3 4;next 4 5;buy 0;buy 1;buy 2;buy 3;buy 4;buy 5;";
        for (int arms = 1; arms < 6; arms++) {
            errand(with(six, 999, arms), 10 * arms + 5, arms, arms, (1 << arms) - 1);
        }
        errand(with(six, 999, 6), NONE, 6, 6, 63);
    }

    static void promise10_errand_whatIsTakenBackIsGivenFirst() {
        errand(with("shop 0 7 4 240;shop 2 5 2 240;free 0;next 0 1;buy 0;buy 1;", 999, 1), NONE, 9, 6, 2);
        errand(with("shop 0 7 4 240;shop 0 5 2 240;free 0;next 0 1;buy 0;buy 1;", 999, 1), 15, 7, 4, 1);
    }

    static void promise10_errand_purseIsNeverBelow0() {
        String two = "shop 0 7 4 240;shop 0 5 2 240;free 0;next 0 1;buy 0;buy 1;";
        errand(with(two, 12, 6), NONE, 12, 6, 3);
        errand(with(two, 11, 6), 16, 7, 4, 1);
        errand(with(two, 7, 6), 16, 7, 4, 1);
        errand(with(two, 6, 6), 6, 0, 0, 0);
        errand(with(two, 0, 6), 6, 0, 0, 0);
        errand(with("shop 0 0 1 1;free 0;buy 0;", 0, 6), NONE, 0, 1, 1);
    }

    static void promise10_errand_placeIsThatOfTheFirstThatMightNot() {
        String six = SIX + "free 0;next 0 1;next 1 2;next 2 3;next 3 4;next 4 5;buy 0;buy 1;buy 2;buy 3;buy 4;buy 5;";
        errand(six + "buy 4;", 62, 6, 6, 63);
        errand(six + "buy 0;", 61, 6, 6, 63);
        errand(six + "buy5;".repeat(6), 61, 6, 6, 63);
        errand("shop 0 7 4 240;free 0;" + "buy 0;".repeat(12), 11, 7, 4, 1);
    }

    // ---- 10: "(They are looked at in this order.)" 2 ahead of 3 can not be: who was at a GRAND one holds two for good.

    static void promise10_errand_noNeighbourGoesAheadOfAllElse() {
        errand(with("shop 0 7 4 240;free 0;buy 0;buy 0;", 999, 6), 11, 7, 4, 1);
        errand("shop 5 7 4 240;buy 0;", 1, 0, 0, 0);
        errand("shop 0 7 4 3;buy 0;", 1, 0, 0, 0);
        errand(with("shop 0 0 4 240;shop 0 5 2 240;free 0;buy 0;buy 1;", 999, 1), 11, 0, 4, 1);
        errand(with("shop 0 7 4 240;buy 0;", 0, 6), 1, 0, 0, 0);
    }

    static void promise10_errand_oneWasThereGoesAheadOfWhatIsBehindIt() {
        errand("shop 0 1 1 2;shop 0 1 2 9;free 0;next 0 1;buy 0;buy 1;buy 0;", 22, 2, 3, 3);
        errand(with("shop 0 1 1 9;shop 0 1 2 9;free 0;next 0 1;buy 0;buy 1;buy 0;", 999, 2), 22, 2, 3, 3);
        errand(with("shop 0 1 1 9;shop 0 1 2 9;free 0;next 0 1;buy 0;buy 1;buy 0;", 2, 6), 22, 2, 3, 3);
    }

    static void promise10_errand_grandGoesAheadOfWhatIsBehindIt() {
        errand("shop 5 1 4 3;free 0;buy 0;", 3, 0, 0, 0);
        errand(with("shop 0 1 1 9;shop 5 1 1 9;free 0;next 0 1;buy 0;buy 1;", 999, 1), 13, 1, 1, 1);
        errand(with("shop 5 1 1 9;free 0;buy 0;", 0, 6), 3, 0, 0, 0);
    }

    static void promise10_errand_tooLateGoesAheadOfWhatIsBehindIt() {
        errand(with("shop 0 1 1 9;shop 0 1 1 1;free 0;next 0 1;buy 0;buy 1;", 999, 1), 14, 1, 1, 1);
        errand(with("shop 0 1 4 3;free 0;buy 0;", 0, 6), 4, 0, 0, 0);
    }

    static void promise10_errand_tooMuchToHoldGoesAheadOfThePurse() {
        errand(with("shop 0 1 1 9;shop 0 9 1 9;free 0;next 0 1;buy 0;buy 1;", 5, 1), 15, 1, 1, 1);
        errand(with("shop 0 1 1 9;shop 0 9 1 9;free 0;next 0 1;buy 0;buy 1;", 5, 2), 16, 1, 1, 1);
    }

    // ---- 10: the KINDS

    static void promise10_errand_plainIsAsTold() {
        errand("shop 0 1 1 9;shop 0 20 3 9;free 0;next 0 1;buy 0;buy 1;", NONE, 21, 4, 3);
    }

    static void promise10_errand_dearAsksOneMoreForEachThing() {
        String dear = "shop 1 1 1 9;".repeat(6) + "free 0;next 0 1;next 1 2;next 2 3;next 3 4;next 4 5;";
        errand(dear + "buy 0;", NONE, 1, 1, 1);
        errand(dear + "buy 0;buy 1;", NONE, 1 + 2, 2, 3);
        errand(dear + "buy 0;buy 1;buy 2;buy 3;buy 4;buy 5;", NONE, 1 + 2 + 3 + 4 + 5 + 6, 6, 63);
        errand("shop 0 0 1 9;shop 1 20 1 9;free 0;next 0 1;buy 0;buy 1;", NONE, 21, 2, 3);
    }

    static void promise10_errand_dearCountsWhatOneHoldsNotWhatOneBought() {
        // 1 has taken the GOOD of 0 back: one holds one thing at 2.
        errand("shop 0 4 1 9;shop 2 4 1 9;shop 1 4 1 9;free 0;next 0 1;next 1 2;buy 0;buy 1;buy 2;", NONE, 4 + 2 + 5, 3, 6);
    }

    static void promise10_errand_backTakesTheGoodOfTheOneAhead() {
        errand("shop 0 8 1 9;shop 2 5 1 9;free 0;next 0 1;buy 0;buy 1;", NONE, 8 + 1, 2, 2);
        errand("shop 0 8 1 9;shop 0 8 1 9;shop 2 5 1 9;free 0;next 0 2;buy 0;buy 2;", NONE, 8 + 5, 2, 5);
    }

    static void promise10_errand_back0TakesThatOfTheLastOne() {
        errand("shop 2 5 1 9;shop 0 8 1 9;free 1;next 0 1;buy 1;buy 0;", NONE, 8 + 1, 2, 1);
        errand("shop 2 5 1 9;shop 0 8 1 9;shop 0 6 1 9;free 1;free 2;next 0 1;next 0 2;buy 2;buy 0;", NONE, 6 + 2, 2, 1);
        errand("shop 2 5 1 9;shop 0 8 1 9;shop 0 6 1 9;free 1;free 2;next 0 1;next 0 2;buy 1;buy 0;", NONE, 8 + 5, 2, 3);
        errand("shop 2 5 1 9;free 0;buy 0;", NONE, 5, 1, 1);
    }

    static void promise10_errand_backGivesTheHalfCut() {
        errand("shop 0 7 1 9;shop 2 5 1 9;free 0;next 0 1;buy 0;buy 1;", NONE, 7 + 2, 2, 2);
        errand("shop 0 1 1 9;shop 2 5 1 9;free 0;next 0 1;buy 0;buy 1;", NONE, 1 + 5, 2, 2);
        errand("shop 0 0 1 9;shop 2 5 1 9;free 0;next 0 1;buy 0;buy 1;", NONE, 5, 2, 2);
    }

    static void promise10_errand_backGivesHalfOfThePriceAsTold() {
        // 1 is DEAR and was paid 8: told are 7.
        errand("shop 0 1 1 9;shop 1 7 1 9;shop 2 9 1 9;free 0;next 0 1;next 1 2;buy 0;buy 1;buy 2;", NONE, 1 + 8 + 6, 3, 5);
        // 0 is KIND and was had for nothing: told are 8.
        errand("shop 4 8 1 9;shop 2 9 1 9;free 0;next 0 1;buy 0;buy 1;", NONE, 0 + 5, 2, 2);
    }

    static void promise10_errand_backIs0AtLeast() {
        errand("shop 0 20 1 9;shop 2 10 1 9;free 0;next 0 1;buy 0;buy 1;", NONE, 20, 2, 2);
        errand("shop 0 20 1 9;shop 2 9 1 9;free 0;next 0 1;buy 0;buy 1;", NONE, 20, 2, 2);
        errand("shop 0 20 1 9;shop 2 0 1 9;free 0;next 0 1;buy 0;buy 1;", NONE, 20, 2, 2);
    }

    static void promise10_errand_backTakesOneGoodAlone() {
        // Each takes back what is held alone: one thing at a time.
        errand("shop 2 4 1 9;shop 2 6 1 9;shop 2 8 1 9;free 0;next 0 1;next 1 2;buy 0;buy 1;buy 2;", NONE, 4 + 4 + 5, 3, 4);
        // 0 comes behind 2, the last one, and takes that of 2 alone: that of 1 was given to 2.
        errand("shop 2 9 1 9;shop 0 6 1 9;shop 2 8 1 9;free 1;next 1 2;next 2 0;buy 1;buy 2;buy 0;", NONE, 6 + 5 + 5, 3, 1);
    }

    static void promise10_errand_slowTakesTwiceTheMinutesAndIsDear() {
        errand("shop 3 7 4 8;free 0;buy 0;", NONE, 7, 8, 1);
        errand("shop 3 7 4 7;free 0;buy 0;", 4, 0, 0, 0);
        errand("shop 0 3 1 240;shop 3 5 10 240;next 0 1;free 0;buy 0;buy 1;", NONE, 3 + 6, 21, 3);
    }

    static void promise10_errand_kindIsForNothingToWhoHoldsNothing() {
        errand("shop 4 20 1 9;free 0;buy 0;", NONE, 0, 1, 1);
        errand(with("shop 4 20 1 9;free 0;buy 0;", 0, 6), NONE, 0, 1, 1);
        errand("shop 0 1 1 9;shop 0 1 1 9;shop 4 20 1 9;free 0;next 0 2;buy 0;buy 2;", NONE, 21, 2, 5);
    }

    static void promise10_errand_kindTakesBackAsWell() {
        errand("shop 0 7 1 9;shop 4 5 1 9;free 0;next 0 1;buy 0;buy 1;", NONE, 7 + 2, 2, 2);
        errand(with("shop 0 7 1 9;shop 4 5 1 9;free 0;next 0 1;buy 0;buy 1;", 999, 1), NONE, 7 + 2, 2, 2);
    }

    static void promise10_errand_grandSellsToWhoHoldsTwo() {
        String street = "shop 0 1 1 9;shop 0 1 1 9;shop 5 4 1 9;free 0;free 2;next 0 1;next 1 2;next 0 2;";
        errand(street + "buy 2;", 3, 0, 0, 0);
        errand(street + "buy 0;buy 2;", 13, 1, 1, 1);
        errand(street + "buy 0;buy 1;buy 2;", NONE, 1 + 1 + 6, 3, 7);
    }

    static void promise10_errand_grandCountsWhatOneHoldsNotWhatOneBought() {
        errand("shop 0 4 1 9;shop 2 4 1 9;shop 5 4 1 9;free 0;next 0 1;next 1 2;buy 0;buy 1;buy 2;", 23, 6, 2, 2);
    }

    static void promise10_errand_goesByWhatTheStreetIsNow() {
        State state = road("shop 0 7 4 240;shop 0 5 2 240;free 0;next 0 1;buy 0;buy 1;");
        errand(and(state, x -> x.free(0, false)), 1, 0, 0, 0);
        errand(and(state, x -> x.next(1, 0, false)), 11, 7, 4, 1);
        errand(and(state, x -> x.price(1, 20)), NONE, 27, 6, 3);
    }
}
