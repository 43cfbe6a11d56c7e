/** The boundary cases of promises 1 to 8: a new object, shops, neighbours, what is put, bytes that come and go. */
public final class BoundariesShops extends Boundary {
    private static final State TWO = road("shop 0 7 1 240;shop 1 5 1 240;");

    public static void main(String[] args) {
        runAll(BoundariesShops.class, 1, 8);
    }

    // ---- 1: "As told; no SHOPS, no BUYERS."

    static void promise1_newObject_hasNoShopsAndNoBuyers() {
        NextDoor x = new NextDoor();
        due("SHOPS", x.count(0), 0);
        due("BUYERS", x.count(3), 0);
        due("who leaves", x.leave(), 0);
    }

    static void promise1_newObject_hasNoErrandAndNoRoad() {
        NextDoor x = new NextDoor();
        due("SHOPS of THE ERRAND", x.count(1), 0);
        due("bytes", x.count(2), 0);
        due("bytes that it had", x.clear(), 0);
        due("THE ERRAND may be", x.errand(0), NONE);
    }

    static void promise1_newObject_purseIs999AtFirst() {
        due("PURSE", new NextDoor().put(0, 0), 999);
    }

    static void promise1_newObject_armsAre6AtFirst() {
        due("ARMS", new NextDoor().put(1, 1), 6);
    }

    static void promise1_newObject_noneAreNeighboursAndNoneIsFreeAtFirst() {
        NextDoor x = new NextDoor();
        for (int i = 0; i < 6; i++) {
            x.shop(0, 0, 1, 240);
        }
        for (int a = 0; a < 6; a++) {
            due("not FREE", x.free(a, false), NO);
            for (int b = 0; b < 6; b++) {
                due("no NEIGHBOURS", x.next(a, b, false), a == b ? BAD : NO);
            }
        }
    }

    static void promise1_newObject_nothingWasRefusedAndNoImageWasKept() {
        NextDoor x = new NextDoor();
        for (int what = 0; what < 3; what++) {
            due("STATUS " + what, x.status(what), 0);
        }
        due("IMAGE 0", x.from(0), NO);
        due("IMAGE 1", x.from(1), NO);
    }

    static void promise1_newObject_digestIsThatOfNothing() {
        due("digest", new NextDoor().digest(), hash(0, 0, 0, 0, 0, 999, 6));
    }

    static void promise1_newObject_sharesNothingWithAnother() {
        NextDoor other = made(Boundary::full);
        other.status(9);
        due("digest", new NextDoor().digest(), hash(0, 0, 0, 0, 0, 999, 6));
        due("STATUS", new NextDoor().status(0), 0);
        due("IMAGE", new NextDoor().from(0), NO);
    }

    static void promise1_newObject_constantsAreThoseOfTheFace() {
        due("NONE", NextDoor.NONE, -1);
        due("BAD", NextDoor.BAD, -2);
        due("NO", NextDoor.NO, -3);
        due("FULL", NextDoor.FULL, -4);
    }

    // ---- 2: "A SHOP: its number. BAD; FULL: 6."

    static void promise2_shop_numbersAre0To5AsTheyCome() {
        NextDoor x = new NextDoor();
        for (int i = 0; i < 6; i++) {
            due("number", x.shop(i, i, i + 1, i), i);
            due("SHOPS", x.count(0), i + 1);
        }
    }

    static void promise2_shop_kindOutOf0To5IsBad() {
        for (int kind : new int[] {-1, 6, LEAST, MOST}) {
            badEverywhere(x -> x.shop(kind, 1, 1, 1));
        }
    }

    static void promise2_shop_kind0And5AreTaken() {
        NextDoor x = new NextDoor();
        due("PLAIN", x.shop(0, 1, 1, 1), 0);
        due("GRAND", x.shop(5, 1, 1, 1), 1);
        due("digest", x.digest(), hash(2, 0, 0, 0, 0, 1, 1, 1, 0, 5, 1, 1, 1, 0, 0, 999, 6));
    }

    static void promise2_shop_priceOutOf0To20IsBad() {
        for (int price : new int[] {-1, 21, LEAST, MOST}) {
            badEverywhere(x -> x.shop(0, price, 1, 1));
        }
    }

    static void promise2_shop_price0And20AreTaken() {
        NextDoor x = new NextDoor();
        due("0", x.shop(0, 0, 1, 1), 0);
        due("20", x.shop(0, 20, 1, 1), 1);
        due("digest", x.digest(), hash(2, 0, 0, 0, 0, 0, 1, 1, 0, 0, 20, 1, 1, 0, 0, 999, 6));
    }

    static void promise2_shop_minutesOutOf1To30AreBad() {
        for (int minutes : new int[] {0, -1, 31, LEAST, MOST}) {
            badEverywhere(x -> x.shop(0, 1, minutes, 1));
        }
    }

    static void promise2_shop_minutes1And30AreTaken() {
        NextDoor x = new NextDoor();
        due("1", x.shop(0, 1, 1, 1), 0);
        due("30", x.shop(0, 1, 30, 1), 1);
        due("digest", x.digest(), hash(2, 0, 0, 0, 0, 1, 1, 1, 0, 0, 1, 30, 1, 0, 0, 999, 6));
    }

    static void promise2_shop_shutOutOf0To240IsBad() {
        for (int shut : new int[] {-1, 241, LEAST, MOST}) {
            badEverywhere(x -> x.shop(0, 1, 1, shut));
        }
    }

    static void promise2_shop_shut0And240AreTaken() {
        NextDoor x = new NextDoor();
        due("0", x.shop(0, 1, 1, 0), 0);
        due("240", x.shop(0, 1, 1, 240), 1);
        due("digest", x.digest(), hash(2, 0, 0, 0, 0, 1, 1, 0, 0, 0, 1, 1, 240, 0, 0, 999, 6));
    }

    static void promise2_shop_allNumbersBadIsCountedOnce() {
        badEverywhere(x -> x.shop(-1, -1, -1, -1));
    }

    static void promise2_shop_a7thIsFull() {
        refused(Boundary::full, FULL, x -> x.shop(0, 1, 1, 1));
        refused(Boundary::full, FULL, x -> x.shop(5, 20, 30, 240));
    }

    static void promise2_shop_a6thIsNot() {
        State five = road("shop 0 1 1 1;shop 0 1 1 1;shop 0 1 1 1;shop 0 1 1 1;shop 0 1 1 1;");
        State six = road("shop 0 1 1 1;shop 0 1 1 1;shop 0 1 1 1;shop 0 1 1 1;shop 0 1 1 1;shop 1 2 3 4;");
        leaves(five, 5, x -> x.shop(1, 2, 3, 4), six);
    }

    static void promise2_shop_hasNoNeighboursOfOneThatWasThere() {
        NextDoor x = made(road("shop 0 1 1 1;shop 0 1 1 1;next 0 1;free 1;"));
        read(x, "shop 0 1 1 1;");
        due("a new one", x.shop(0, 1, 1, 1), 1);
        due("no NEIGHBOURS", x.next(0, 1, false), NO);
        due("nor the other way", x.next(1, 0, false), NO);
        due("nor FREE", x.free(1, false), NO);
    }

    static void promise2_shop_changesWhoTheLastOneIs() {
        // 0 is BACK and takes the GOOD of the last one: that of 1, then of 2.
        NextDoor x = made(road("shop 2 9 1 240;shop 0 8 1 240;next 0 1;free 1;buy 1;buy 0;"));
        due("half of 8 less", x.errand(1), 8 + 5);
        x.shop(0, 1, 1, 1);
        due("none is given", x.errand(1), 8 + 9);
    }

    // ---- 3: "Two are NEIGHBOURS, or not: 1. BAD: alike, too; NO: it is so."

    static void promise3_next_aThatIsNoShopIsBad() {
        for (int a : new int[] {-1, 6, 32, 33, LEAST, MOST}) {
            badEverywhere(x -> x.next(a, 1, true));
            badEverywhere(x -> x.next(a, 1, false));
        }
        refused(Boundary::busy, BAD, x -> x.next(3, 0, true));
        refused(Boundary::empty, BAD, x -> x.next(0, 1, true));
    }

    static void promise3_next_bThatIsNoShopIsBad() {
        for (int b : new int[] {-1, 6, 32, 33, LEAST, MOST}) {
            badEverywhere(x -> x.next(1, b, true));
            badEverywhere(x -> x.next(1, b, false));
        }
        refused(Boundary::busy, BAD, x -> x.next(0, 3, true));
        refused(Boundary::busy, BAD, x -> x.next(0, 3, false));
    }

    static void promise3_next_alikeIsBadThoughItIsSo() {
        badEverywhere(x -> x.next(0, 0, true));
        badEverywhere(x -> x.next(0, 0, false));
        refused(Boundary::full, BAD, x -> x.next(5, 5, false));
        badEverywhere(x -> x.next(-1, -1, true));
    }

    static void promise3_next_whatIsSoIsNo() {
        refused(Boundary::busy, NO, x -> x.next(0, 1, true));
        refused(Boundary::busy, NO, x -> x.next(1, 0, true));
        refused(Boundary::full, NO, x -> x.next(5, 4, true));
    }

    static void promise3_next_whatIsNotSoIsNo() {
        refused(Boundary::busy, NO, x -> x.next(0, 2, false));
        refused(Boundary::busy, NO, x -> x.next(2, 0, false));
        refused(Boundary::full, NO, x -> x.next(5, 0, false));
    }

    static void promise3_next_holdsForBothAndForNoOther() {
        NextDoor x = made(road("shop 0 1 1 1;shop 0 1 1 1;shop 0 1 1 1;shop 0 1 1 1;shop 0 1 1 1;shop 0 1 1 1;"));
        due("0 and 5", x.next(5, 0, true), 1);
        due("digest", x.digest(), hash(6, 0, 0, 0, 0, 1, 1, 1, 32, 0, 1, 1, 1, 0, 0, 1, 1, 1, 0, 0, 1, 1, 1, 0,
            0, 1, 1, 1, 0, 0, 1, 1, 1, 1, 0, 999, 6));
        due("no more", x.next(0, 5, false), 1);
        due("digest", x.digest(), hash(6, 0, 0, 0, 0, 1, 1, 1, 0, 0, 1, 1, 1, 0, 0, 1, 1, 1, 0, 0, 1, 1, 1, 0,
            0, 1, 1, 1, 0, 0, 1, 1, 1, 0, 0, 999, 6));
    }

    static void promise3_next_noMoreLeavesTheOthers() {
        leaves(road("shop 0 1 1 1;shop 0 1 1 1;shop 0 1 1 1;next 0 1;next 1 2;next 0 2;"), 1, x -> x.next(0, 1, false),
            road("shop 0 1 1 1;shop 0 1 1 1;shop 0 1 1 1;next 1 2;next 0 2;"));
    }

    // ---- 4: "A SHOP is FREE, or not: 1. BAD; NO: it is so."

    static void promise4_free_whatIsNoShopIsBad() {
        for (int shop : new int[] {-1, 6, 31, 32, LEAST, MOST}) {
            badEverywhere(x -> x.free(shop, true));
            badEverywhere(x -> x.free(shop, false));
        }
        refused(Boundary::busy, BAD, x -> x.free(3, false));
        refused(Boundary::empty, BAD, x -> x.free(0, true));
    }

    static void promise4_free_whatIsSoIsNo() {
        refused(Boundary::busy, NO, x -> x.free(0, true));
        refused(Boundary::full, NO, x -> x.free(0, true));
    }

    static void promise4_free_whatIsNotSoIsNo() {
        refused(Boundary::busy, NO, x -> x.free(2, false));
        refused(Boundary::full, NO, x -> x.free(5, false));
    }

    static void promise4_free_holdsForThatOneAlone() {
        NextDoor x = made(road("shop 0 1 1 1;shop 0 1 1 1;shop 0 1 1 1;shop 0 1 1 1;shop 0 1 1 1;shop 0 1 1 1;free 0;"));
        long shops = hash(6, 0, 0, 0, 0, 1, 1, 1, 0, 0, 1, 1, 1, 0, 0, 1, 1, 1, 0, 0, 1, 1, 1, 0, 0, 1, 1, 1, 0, 0, 1, 1, 1, 0);
        due("the last", x.free(5, true), 1);
        due("digest", x.digest(), on(shops, 33, 999, 6));
        due("the first no more", x.free(0, false), 1);
        due("digest", x.digest(), on(shops, 32, 999, 6));
        due("none", x.free(5, false), 1);
        due("digest", x.digest(), on(shops, 0, 999, 6));
    }

    // ---- 5: "PURSE (0), ARMS (1): what it was. BAD."

    static void promise5_put_purseOutOf0To999IsBad() {
        for (int v : new int[] {-1, 1000, LEAST, MOST}) {
            badEverywhere(x -> x.put(0, v));
        }
    }

    static void promise5_put_purse0And999AreTaken() {
        NextDoor x = new NextDoor();
        due("what it was", x.put(0, 0), 999);
        due("digest", x.digest(), hash(0, 0, 0, 0, 0, 0, 6));
        due("what it was", x.put(0, 999), 0);
        due("digest", x.digest(), hash(0, 0, 0, 0, 0, 999, 6));
    }

    static void promise5_put_armsOutOf1To6AreBad() {
        for (int v : new int[] {0, -1, 7, LEAST, MOST}) {
            badEverywhere(x -> x.put(1, v));
        }
    }

    static void promise5_put_arms1And6AreTaken() {
        NextDoor x = new NextDoor();
        due("what it was", x.put(1, 1), 6);
        due("digest", x.digest(), hash(0, 0, 0, 0, 0, 999, 1));
        due("what it was", x.put(1, 6), 1);
        due("digest", x.digest(), hash(0, 0, 0, 0, 0, 999, 6));
    }

    static void promise5_put_anotherWhatIsBad() {
        for (int what : new int[] {-1, 2, LEAST, MOST}) {
            badEverywhere(x -> x.put(what, 3));
        }
    }

    static void promise5_put_whatItIsAlreadyIsTaken() {
        answered(Boundary::busy, 60, x -> x.put(0, 60));
        answered(Boundary::busy, 4, x -> x.put(1, 4));
    }

    // ---- 6: "PRICE of a SHOP as told: what it was. BAD."

    static void promise6_price_whatIsNoShopIsBad() {
        for (int shop : new int[] {-1, 6, LEAST, MOST}) {
            badEverywhere(x -> x.price(shop, 3));
        }
        refused(Boundary::busy, BAD, x -> x.price(3, 3));
        refused(Boundary::empty, BAD, x -> x.price(0, 3));
    }

    static void promise6_price_outOf0To20IsBad() {
        for (int v : new int[] {-1, 21, LEAST, MOST}) {
            badEverywhere(x -> x.price(0, v));
        }
    }

    static void promise6_price_0And20AreTaken() {
        leaves(TWO, 7, x -> x.price(0, 0), road("shop 0 0 1 240;shop 1 5 1 240;"));
        leaves(TWO, 7, x -> x.price(0, 20), road("shop 0 20 1 240;shop 1 5 1 240;"));
        leaves(TWO, 5, x -> x.price(1, 20), road("shop 0 7 1 240;shop 1 20 1 240;"));
    }

    static void promise6_price_wasAsTold() {
        // 1 is DEAR, and is asked one more of who comes from 0: it was told 5.
        NextDoor x = made(and(TWO, y -> {
            y.next(0, 1, true);
            y.free(0, true);
            y.buyer(1, 99);
        }));
        due("what it takes", x.takes(1), 6);
        due("what it was", x.price(1, 5), 5);
    }

    static void promise6_price_whatItIsAlreadyIsTaken() {
        answered(Boundary::busy, 5, x -> x.price(1, 5));
    }

    // ---- 7: "The lowest n (1 .. 8) bytes of v, the highest of them first, come to THE ROAD: how many it has. BAD; FULL."

    static void promise7_type_nOutOf1To8IsBad() {
        for (int n : new int[] {0, -1, 9, LEAST, MOST}) {
            badEverywhere(x -> x.type(0x6162636465666768L, n));
        }
    }

    static void promise7_type_oneIsTheLowestByte() {
        NextDoor x = new NextDoor();
        due("how many", x.type(0x6162636465666768L, 1), 1);
        due("digest", x.digest(), hash(0, 0, 1, 0, 0, 999, 6, 0x68));
    }

    static void promise7_type_eightAreAllTheHighestFirst() {
        NextDoor x = new NextDoor();
        due("how many", x.type(0x6162636465666768L, 8), 8);
        due("digest", x.digest(), hash(0, 0, 8, 0, 0, 999, 6, 0x61, 0x62, 0x63, 0x64, 0x65, 0x66, 0x67, 0x68));
    }

    static void promise7_type_bytesOfANumberBelow0() {
        NextDoor x = new NextDoor();
        due("how many", x.type(Long.MIN_VALUE, 8), 8);
        due("how many", x.type(-1L, 1), 9);
        due("digest", x.digest(), hash(0, 0, 9, 0, 0, 999, 6, 0x80, 0, 0, 0, 0, 0, 0, 0, 0xff));
    }

    static void promise7_type_comesBehindWhatWasThere() {
        NextDoor x = new NextDoor();
        x.type(0x6162L, 2);
        due("how many", x.type(0x6364L, 2), 4);
        due("digest", x.digest(), hash(0, 0, 4, 0, 0, 999, 6, 0x61, 0x62, 0x63, 0x64));
    }

    static void promise7_type_the200thByteComes() {
        NextDoor x = new NextDoor();
        type(x, "x".repeat(192));
        due("how many", x.type(0x7878787878787878L, 8), 200);
        NextDoor y = new NextDoor();
        type(y, "x".repeat(199));
        due("how many", y.type('x', 1), 200);
        due("like the other", y.digest(), x.digest());
    }

    static void promise7_type_beyond200IsFullAndNoneOfThemComes() {
        refused(Boundary::full, FULL, x -> x.type('x', 1));
        refused(Boundary::full, FULL, x -> x.type(0x7878787878787878L, 8));
        State most = x -> type(x, "x".repeat(199));
        refused(most, FULL, x -> x.type(0x7878L, 2));
        refused(x -> type(x, "x".repeat(193)), FULL, x -> x.type(0x7878787878787878L, 8));
        leaves(most, 200, x -> x.type('x', 1), x -> type(x, "x".repeat(200)));
    }

    static void promise7_type_isNotRead() {
        NextDoor x = made(Boundary::busy);
        x.clear();
        long before = x.errand(1);
        type(x, "shop 0 0 1 0;");
        due("SHOPS", x.count(0), 3);
        due("THE ERRAND", x.errand(1), before);
    }

    // ---- 8: "THE ROAD is empty: how many bytes it had (what was read stays)."

    static void promise8_clear_ofAnEmptyRoadIs0() {
        answered(Boundary::empty, 0, NextDoor::clear);
        answered(TWO, 0, NextDoor::clear);
    }

    static void promise8_clear_ofAFullRoadIs200() {
        NextDoor x = made(Boundary::full);
        due("how many", x.clear(), 200);
        due("none", x.clear(), 0);
        due("room for all", x.type(0x7878787878787878L, 8), 8);
    }

    static void promise8_clear_leavesWhatWasRead() {
        String text = "shop 0 7 1 240;shop 1 5 1 240;next 0 1;free 0;buy 0;buy 1;";
        NextDoor x = new NextDoor();
        read(x, text);
        due("how many", x.clear(), text.length());
        due("digest", x.digest(), hash(2, 2, 0, 0, 0, 7, 1, 240, 2, 1, 5, 1, 240, 1, 1, 999, 6, 0, 1));
        due("THE ERRAND", x.errand(1), 13);
    }
}
