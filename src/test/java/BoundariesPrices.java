/** The boundary cases of promises 17 to 22: buyers, what a SHOP takes and asks, how prices change, what was wanted. */
public final class BoundariesPrices extends Boundary {
    private static final State ONE = road("shop 0 4 1 240;free 0;");
    private static final State LINE = road("shop 0 4 1 240;shop 1 3 1 240;shop 2 6 1 240;next 0 1;next 1 2;free 0;");
    /** Two ways to 2: who is the cheaper is gone to, of like ones 0. */
    private static final State RIVALS = and(road("shop 0 9 1 240;shop 0 6 1 240;shop 0 1 1 240;next 0 2;next 1 2;free 0;free 1;"), x -> x.buyer(2, 99));
    /** 1 takes the GOOD of 0 back. */
    private static final State GIVEN_BACK = and(road("shop 0 4 1 240;shop 2 20 1 240;next 0 1;free 0;"), x -> x.buyer(1, 25));

    public static void main(String[] args) {
        runAll(BoundariesPrices.class, 17, 22);
    }

    private static State buyers(State state, int... wantsAndLimits) {
        return and(state, x -> {
            for (int i = 0; i + 1 < wantsAndLimits.length; i += 2) {
                due("a BUYER", x.buyer(wantsAndLimits[i], wantsAndLimits[i + 1]), i / 2);
            }
        });
    }

    // ---- 17: "A BUYER: its number. BAD; FULL: 6."

    static void promise17_buyer_numbersAre0To5AsTheyCome() {
        NextDoor x = made(ONE);
        for (int i = 0; i < 6; i++) {
            due("number", x.buyer(0, i), i);
            due("BUYERS", x.count(3), i + 1);
        }
    }

    static void promise17_buyer_aWantThatIsNoGoodIsBad() {
        for (int want : new int[] {-1, 6, 32, LEAST, MOST}) {
            badEverywhere(x -> x.buyer(want, 5));
        }
        refused(Boundary::busy, BAD, x -> x.buyer(3, 5));
        refused(Boundary::empty, BAD, x -> x.buyer(0, 5));
    }

    static void promise17_buyer_aLimitOutOf0To99IsBad() {
        for (int limit : new int[] {-1, 100, LEAST, MOST}) {
            badEverywhere(x -> x.buyer(0, limit));
        }
    }

    static void promise17_buyer_limit0And99AreTaken() {
        NextDoor x = made(ONE);
        due("0", x.buyer(0, 0), 0);
        due("99", x.buyer(0, 99), 1);
        due("digest", x.digest(), hash(1, 0, 0, 2, 0, 4, 1, 240, 0, 1, 999, 6, 0, 0, 0, 99));
    }

    static void promise17_buyer_theFirstAndTheLastGoodAreTaken() {
        NextDoor x = made(Boundary::full);
        x.leave();
        due("0", x.buyer(0, 1), 0);
        due("5", x.buyer(5, 1), 1);
    }

    static void promise17_buyer_a7thIsFull() {
        refused(Boundary::full, FULL, x -> x.buyer(0, 0));
        refused(Boundary::full, FULL, x -> x.buyer(5, 99));
    }

    static void promise17_buyer_a6thIsNot() {
        leaves(buyers(ONE, 0, 1, 0, 2, 0, 3, 0, 4, 0, 5), 5, x -> x.buyer(0, 6), buyers(ONE, 0, 1, 0, 2, 0, 3, 0, 4, 0, 5, 0, 6));
    }

    static void promise17_buyer_needNotHaveAnErrand() {
        leaves(road("shop 0 4 1 0;"), 0, x -> x.buyer(0, 9), buyers(road("shop 0 4 1 0;"), 0, 9));
    }

    static void promise17_buyer_staysWhenARoadIsRead() {
        NextDoor x = made(buyers(LINE, 2, 50));
        read(x, "shop 0 4 1 240;free 0;");
        due("BUYERS", x.count(3), 1);
        due("what it wants is not sold: it stays away", x.takes(0), 0);
        due("nor does it come at another PRICE", x.asks(0), 0);
    }

    // ---- 18: "No BUYERS: how many there were."

    static void promise18_leave_ofNoneIs0() {
        answered(Boundary::empty, 0, NextDoor::leave);
        answered(ONE, 0, NextDoor::leave);
    }

    static void promise18_leave_ofSixIs6() {
        NextDoor x = made(Boundary::full);
        due("how many", x.leave(), 6);
        due("BUYERS", x.count(3), 0);
        due("again", x.leave(), 0);
    }

    static void promise18_leave_changesNothingElse() {
        leaves(buyers(LINE, 2, 50, 1, 9), 2, NextDoor::leave, LINE);
    }

    static void promise18_leave_theNextIsNumber0() {
        NextDoor x = made(buyers(ONE, 0, 9, 0, 8));
        x.leave();
        due("number", x.buyer(0, 7), 0);
        due("digest", x.digest(), hash(1, 0, 0, 1, 0, 4, 1, 240, 0, 1, 999, 6, 0, 7));
    }

    // ---- 19: "TAKES. BAD."

    static void promise19_takes_whatIsNoShopIsBad() {
        for (int shop : new int[] {-1, 6, LEAST, MOST}) {
            badEverywhere(x -> x.takes(shop));
        }
        refused(Boundary::busy, BAD, x -> x.takes(3));
        refused(Boundary::empty, BAD, x -> x.takes(0));
    }

    static void promise19_takes_ofNobodyIs0() {
        answered(ONE, 0, x -> x.takes(0));
    }

    static void promise19_takes_upToLimitToTheLast() {
        answered(buyers(ONE, 0, 4), 4, x -> x.takes(0));
        answered(buyers(ONE, 0, 3), 0, x -> x.takes(0));
        answered(buyers(ONE, 0, 0), 0, x -> x.takes(0));
        answered(buyers(ONE, 0, 99), 4, x -> x.takes(0));
    }

    static void promise19_takes_limitIsOfAllThatIsPaid() {
        // 4, and 3 and one more for what is held.
        answered(buyers(LINE, 1, 8), 4, x -> x.takes(0));
        answered(buyers(LINE, 1, 8), 4, x -> x.takes(1));
        answered(buyers(LINE, 1, 7), 0, x -> x.takes(0));
        answered(buyers(LINE, 1, 7), 0, x -> x.takes(1));
    }

    static void promise19_takes_fromAllBuyersTogether() {
        // Who goes far comes ahead of who does not: nothing of a longer ROW is left in a shorter one.
        State six = buyers(LINE, 2, 99, 2, 12, 1, 99, 0, 99, 0, 4, 0, 3);
        answered(six, 4 * 4, x -> x.takes(0));
        answered(six, 2 * 4, x -> x.takes(1));
        answered(six, 5, x -> x.takes(2));
    }

    static void promise19_takes_whoHasNoErrandStaysAway() {
        answered(buyers(road("shop 0 4 1 240;shop 0 4 1 240;free 0;"), 1, 99), 0, x -> x.takes(0));
        answered(buyers(road("shop 0 4 1 0;free 0;"), 0, 99), 0, x -> x.takes(0));
    }

    static void promise19_takes_withinThePurse() {
        State line = buyers(LINE, 2, 99);
        answered(and(line, x -> x.put(0, 13)), 5, x -> x.takes(2));
        answered(and(line, x -> x.put(0, 12)), 0, x -> x.takes(2));
        answered(and(line, x -> x.put(0, 12)), 0, x -> x.takes(0));
    }

    static void promise19_takes_onlyThoseOfTheRow() {
        answered(RIVALS, 0, x -> x.takes(0));
        answered(RIVALS, 6, x -> x.takes(1));
        answered(RIVALS, 1, x -> x.takes(2));
        answered(and(RIVALS, x -> x.price(1, 9)), 9, x -> x.takes(0));
        answered(and(RIVALS, x -> x.price(1, 9)), 0, x -> x.takes(1));
    }

    static void promise19_takes_nothingOfWhomItSellsToForNothing() {
        answered(buyers(road("shop 4 20 1 240;free 0;"), 0, 0), 0, x -> x.takes(0));
        answered(buyers(road("shop 0 0 1 240;free 0;"), 0, 0), 0, x -> x.takes(0));
    }

    // ---- 20: "What a SHOP ASKS. BAD."

    static void promise20_asks_whatIsNoShopIsBad() {
        for (int shop : new int[] {-1, 6, LEAST, MOST}) {
            badEverywhere(x -> x.asks(shop));
        }
        refused(Boundary::busy, BAD, x -> x.asks(3));
        refused(Boundary::empty, BAD, x -> x.asks(0));
    }

    static void promise20_asks_theLeastIfNobodyComes() {
        answered(ONE, 0, x -> x.asks(0));
        answered(buyers(road("shop 0 4 1 0;free 0;"), 0, 99), 0, x -> x.asks(0));
        answered(buyers(ONE, 0, 0), 0, x -> x.asks(0));
    }

    static void promise20_asks_20AtMost() {
        answered(buyers(ONE, 0, 99), 20, x -> x.asks(0));
        answered(buyers(ONE, 0, 21), 20, x -> x.asks(0));
        answered(buyers(ONE, 0, 20), 20, x -> x.asks(0));
        answered(buyers(ONE, 0, 19), 19, x -> x.asks(0));
        answered(buyers(ONE, 0, 1), 1, x -> x.asks(0));
    }

    static void promise20_asks_ofLikeOnesTheLeast() {
        answered(buyers(ONE, 0, 7, 0, 14), 7, x -> x.asks(0));
        answered(buyers(ONE, 0, 7, 0, 15), 15, x -> x.asks(0));
        answered(buyers(ONE, 0, 5, 0, 10, 0, 15), 10, x -> x.asks(0));
    }

    static void promise20_asks_ofAKindOneTheLeast() {
        // Nobody who holds nothing pays: each PRICE takes alike.
        answered(buyers(road("shop 4 4 1 240;free 0;"), 0, 99), 0, x -> x.asks(0));
    }

    static void promise20_asks_whateverPriceItHas() {
        for (int price : new int[] {0, 13, 20}) {
            answered(and(buyers(ONE, 0, 13), x -> x.price(0, price)), 13, x -> x.asks(0));
        }
    }

    static void promise20_asks_byItself() {
        // 1 has 6 and 0 has 9: 0 would go as low as 6, being the first of like ones, 1 as high as 8.
        answered(RIVALS, 6, x -> x.asks(0));
        answered(RIVALS, 8, x -> x.asks(1));
        answered(RIVALS, 20, x -> x.asks(2));
    }

    static void promise20_asks_withinThePurse() {
        answered(and(buyers(ONE, 0, 99), x -> x.put(0, 11)), 11, x -> x.asks(0));
        answered(and(buyers(ONE, 0, 99), x -> x.put(0, 0)), 0, x -> x.asks(0));
    }

    static void promise20_asks_priceAsToldNotWhatIsPaid() {
        // 1 is DEAR: of who may pay 10 in all, 4 go to 0, and it asks one more than told.
        answered(buyers(LINE, 1, 10), 5, x -> x.asks(1));
        answered(buyers(LINE, 1, 5), 0, x -> x.asks(1));
    }

    static void promise20_asks_backGivesHalfOfThePriceThatIsTried() {
        // Of who may pay 25 in all 20 go to 1, less half of what 0 asks: 10 and 15, not 7 and 18 by the PRICE of now.
        answered(GIVEN_BACK, 10, x -> x.asks(0));
        answered(and(GIVEN_BACK, x -> x.price(0, 20)), 10, x -> x.asks(0));
    }

    // ---- 21: "CHANGES: rounds (shop = NONE), the PRICE of a SHOP then. NONE. BAD."

    private static State rivals(int first, int second) {
        return and(RIVALS, x -> {
            x.price(0, first);
            x.price(1, second);
        });
    }

    static void promise21_changes_whatIsNoShopIsBad() {
        for (int shop : new int[] {-2, 6, LEAST, MOST}) {
            badEverywhere(x -> x.changes(shop));
        }
        refused(Boundary::busy, BAD, x -> x.changes(3));
        refused(Boundary::empty, BAD, x -> x.changes(0));
    }

    static void promise21_changes_ofNoShopsIsOneRound() {
        answered(Boundary::empty, 1, x -> x.changes(NONE));
    }

    static void promise21_changes_noneWouldIsOneRound() {
        answered(LINE, 1, x -> x.changes(NONE));
        answered(LINE, 3, x -> x.changes(1));
        answered(buyers(road("shop 0 20 1 240;free 0;"), 0, 99), 1, x -> x.changes(NONE));
    }

    static void promise21_changes_theLastRoundInWhichNoneDoesCounts() {
        answered(buyers(ONE, 0, 7), 2, x -> x.changes(NONE));
        answered(buyers(ONE, 0, 7), 7, x -> x.changes(0));
    }

    static void promise21_changes_onlyIfThatTakesMore() {
        // 1 sells to nobody, whatever it asks: it stays as it is.
        answered(buyers(road("shop 0 7 1 240;shop 0 3 1 240;free 0;"), 0, 7), 1, x -> x.changes(NONE));
        answered(buyers(road("shop 0 7 1 240;shop 0 3 1 240;free 0;"), 0, 7), 3, x -> x.changes(1));
        // 14 of one is as good as 7 of two: it stays at 14, though it asks 7.
        State alike = and(buyers(ONE, 0, 7, 0, 14), x -> x.price(0, 14));
        answered(alike, 7, x -> x.asks(0));
        answered(alike, 1, x -> x.changes(NONE));
        answered(alike, 14, x -> x.changes(0));
    }

    static void promise21_changes_mayGoDownTo0() {
        // 1 is DEAR and takes one more than its PRICE: with 0 alone the BUYER, who has 1, comes.
        State dear = buyers(road("shop 0 0 1 240;shop 1 5 1 240;next 0 1;free 0;"), 1, 1);
        answered(dear, 2, x -> x.changes(NONE));
        answered(dear, 0, x -> x.changes(1));
        answered(dear, 0, x -> x.changes(0));
    }

    static void promise21_changes_mayGoUpTo20() {
        answered(buyers(ONE, 0, 99), 2, x -> x.changes(NONE));
        answered(buyers(ONE, 0, 99), 20, x -> x.changes(0));
    }

    static void promise21_changes_oneBehindTheOther() {
        // 0 goes to 6, then 1, which sees that, to 5, and so on: 5, 4; 4, 3; 3, 2; 2, 1; 1; none.
        answered(rivals(9, 6), 7, x -> x.changes(NONE));
        answered(rivals(9, 6), 1, x -> x.changes(0));
        answered(rivals(9, 6), 1, x -> x.changes(1));
        answered(rivals(9, 6), 20, x -> x.changes(2));
    }

    static void promise21_changes_backGivesHalfOfThePriceOfThen() {
        answered(GIVEN_BACK, 2, x -> x.changes(NONE));
        answered(GIVEN_BACK, 10, x -> x.changes(0));
        answered(GIVEN_BACK, 20, x -> x.changes(1));
    }

    static void promise21_changes_eightRoundsAtMost() {
        answered(rivals(8, 7), 8, x -> x.changes(NONE));
        answered(rivals(8, 7), 1, x -> x.changes(0));
        answered(rivals(9, 8), NONE, x -> x.changes(NONE));
    }

    static void promise21_changes_notByThenIsNoneOfAPriceToo() {
        for (int shop = 0; shop < 3; shop++) {
            int asked = shop;
            answered(rivals(9, 8), NONE, x -> x.changes(asked));
        }
    }

    static void promise21_changes_changesNothing() {
        NextDoor x = made(rivals(9, 6));
        long before = x.digest();
        x.changes(NONE);
        x.changes(0);
        due("digest", x.digest(), before);
        due("takes", x.takes(1), 6);
        NextDoor y = made(rivals(9, 8));
        before = y.digest();
        y.changes(NONE);
        due("digest", y.digest(), before);
    }

    // ---- 22: "WANTED: how many (i = NONE), the i-th. -5: not so many. BAD: -10."

    private static final State BOUGHT = road("shop 0 1 1 240;shop 0 1 1 240;shop 0 1 1 240;next 0 1;next 1 2;free 0;buy 0;buy 1;buy 2;");

    private static void wanted(State state, int... sets) {
        answered(state, sets.length, x -> x.wanted(NONE));
        for (int i = 0; i < sets.length; i++) {
            int place = i;
            answered(state, sets[i], x -> x.wanted(place));
        }
        answered(state, -5, x -> x.wanted(sets.length));
        answered(state, -5, x -> x.wanted(MOST));
    }

    static void promise22_wanted_belowNoneIsBad() {
        badEverywhere(-10, x -> x.wanted(-2));
        badEverywhere(-10, x -> x.wanted(LEAST));
        refused(BOUGHT, BAD, -10, x -> x.wanted(-2));
    }

    static void promise22_wanted_nothingBoughtIsNothingWanted() {
        wanted(Boundary::empty, 0);
        wanted(ONE, 0);
        // What has no ERRAND has no ROW, not an empty one.
        wanted(road("shop 0 1 1 0;shop 0 1 1 9;"), 0);
    }

    static void promise22_wanted_setsByBitsAndNotSoMany() {
        wanted(BOUGHT, 4, 5, 6, 7);
        wanted(and(BOUGHT, x -> x.next(0, 2, true)), 6, 7);
    }

    static void promise22_wanted_allSixShops() {
        String six = "shop 0 1 1 9;".repeat(6) + "free 0;next 0 1;next 1 2;next 2 3;next 3 4;next 4 5;buy 0;buy 1;buy 2;buy 3;buy 4;buy 5;";
        int[] sets = new int[32];
        for (int i = 0; i < 32; i++) {
            sets[i] = 32 + i;
        }
        wanted(road(six), sets);
    }

    static void promise22_wanted_anErrandThatMayNotBeIsNobodys() {
        wanted(and(BOUGHT, x -> x.put(0, 2)));
        wanted(and(BOUGHT, x -> x.put(1, 2)));
        wanted(and(BOUGHT, x -> x.free(0, false)));
        wanted(and(BOUGHT, x -> x.next(1, 2, false)));
        wanted(and(BOUGHT, x -> x.put(0, 3)), 4, 5, 6, 7);
        wanted(Boundary::full);
    }

    static void promise22_wanted_whatWasGivenWasNotWanted() {
        wanted(road("shop 0 2 1 240;shop 2 9 1 240;next 0 1;free 0;buy 0;buy 1;"), 2);
    }

    static void promise22_wanted_anErrandThatIsNoRowIsNobodys() {
        // 1-0 is as dear as 0-1, and behind it by SHOPS in their order.
        String two = "shop 0 1 1 240;shop 0 1 1 240;next 0 1;free 0;free 1;";
        wanted(road(two + "buy 1;buy 0;"));
        wanted(road(two + "buy 0;buy 1;"), 3);
        wanted(road(two + "buy 1;"), 2);
        // 0-2 is as good as 1-2, and ahead of it: only who wants 1, too, goes by 1.
        wanted(road("shop 0 2 1 240;shop 0 2 1 240;shop 0 1 1 240;next 0 2;next 1 2;free 0;free 1;buy 1;buy 2;"), 6);
        // 0-2 leaves 1 out: no set with that GOOD is among them.
        wanted(road("shop 0 1 1 240;shop 0 1 1 240;shop 0 9 1 240;next 0 1;next 1 2;next 0 2;free 0;buy 0;buy 2;"), 4, 5);
    }

    static void promise22_wanted_ofAllShopsTheStreetHasNow() {
        // A new SHOP that is nobody's way: no set with its GOOD is among them.
        wanted(and(BOUGHT, x -> x.shop(0, 0, 1, 240)), 4, 5, 6, 7);
        // With another way by it, for nothing, the ROW of 4 is another.
        wanted(and(BOUGHT, x -> {
            x.shop(0, 0, 1, 240);
            x.next(3, 2, true);
            x.free(3, true);
        }), 5, 7);
    }
}
