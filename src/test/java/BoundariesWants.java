/** The boundary cases of promises 11 to 16: what is wanted, the cheapest and the soonest, what a SHOP is worth, shut out, mends. */
public final class BoundariesWants extends Boundary {
    private static final String SIX = "shop 0 9 1 99;shop 0 9 1 99;shop 0 9 1 99;shop 0 9 1 99;shop 0 9 1 99;shop 0 9 1 99;"
        + "next 0 1;next 1 2;next 2 3;next 3 4;next 4 5;free 0;";
    /** From 0 to 3 by 1, soon and dear, or by 2, late and cheap. */
    private static final String TWO_WAYS = "shop 0 2 1 240;shop 0 3 1 240;shop 0 1 9 240;shop 0 4 1 240;next 0 1;next 1 3;next 0 2;next 2 3;free 0;";

    public static void main(String[] args) {
        runAll(BoundariesWants.class, 11, 16);
    }

    private static void cheapest(State state, int wants, int paid, int shops, int minute) {
        answered(state, paid, x -> x.cheapest(wants, 0));
        answered(state, shops, x -> x.cheapest(wants, 1));
        answered(state, minute, x -> x.cheapest(wants, 2));
    }

    private static void noCheapest(State state, int wants) {
        cheapest(state, wants, NONE, NONE, NONE);
    }

    private static State with(String text, int purse, int arms) {
        return and(road(text), x -> {
            x.put(0, purse);
            x.put(1, arms);
        });
    }

    /** The ROW whole, and none behind it. */
    private static void row(State state, int wants, int... shops) {
        for (int i = 0; i < shops.length; i++) {
            int place = i;
            answered(state, shops[i], x -> x.row(wants, place));
        }
        answered(state, -5, x -> x.row(wants, shops.length));
    }

    // ---- 11: "CHEAPEST of WANTS: paid (0), SHOPS (1), minute (2). NONE. BAD."

    static void promise11_cheapest_wantsThatAreNoGoodsAreBad() {
        for (int wants : new int[] {-1, 64, 65, 128, LEAST, MOST}) {
            for (int what = 0; what < 3; what++) {
                int asked = what;
                badEverywhere(x -> x.cheapest(wants, asked));
            }
        }
        refused(Boundary::busy, BAD, x -> x.cheapest(8, 0));
        refused(Boundary::empty, BAD, x -> x.cheapest(1, 0));
    }

    static void promise11_cheapest_anotherWhatIsBad() {
        for (int what : new int[] {-1, 3, LEAST, MOST}) {
            badEverywhere(x -> x.cheapest(0, what));
        }
        refused(Boundary::busy, BAD, x -> x.cheapest(1, 3));
    }

    static void promise11_cheapest_twoBadNumbersAreCountedOnce() {
        badEverywhere(x -> x.cheapest(-1, -1));
    }

    static void promise11_cheapest_wantsNoneIs0AndNoShops() {
        cheapest(Boundary::empty, 0, 0, 0, 0);
        cheapest(Boundary::busy, 0, 0, 0, 0);
        cheapest(Boundary::full, 0, 0, 0, 0);
        cheapest(with(SIX, 0, 1), 0, 0, 0, 0);
    }

    static void promise11_cheapest_wantsAllShopsIsTaken() {
        cheapest(road(SIX), 63, 54, 6, 6);
        cheapest(road("shop 0 7 2 9;free 0;"), 1, 7, 1, 2);
    }

    static void promise11_cheapest_noneIsNotCounted() {
        noCheapest(road("shop 0 7 2 9;"), 1);
        noCheapest(road("shop 0 7 2 9;shop 0 7 2 9;free 0;"), 2);
        noCheapest(road("shop 0 7 2 9;shop 0 7 2 9;free 0;"), 3);
        noCheapest(road("shop 0 7 2 1;free 0;"), 1);
        noCheapest(road("shop 5 7 2 9;free 0;"), 1);
    }

    static void promise11_cheapest_isTheLeastThatIsPaid() {
        cheapest(road(TWO_WAYS), 8, 7, 3, 11);
        cheapest(road(TWO_WAYS), 10, 9, 3, 3);
    }

    static void promise11_cheapest_holdsOthersToo() {
        cheapest(road(TWO_WAYS), 12, 7, 3, 11);
        cheapest(road(TWO_WAYS), 15, 10, 4, 12);
    }

    static void promise11_cheapest_ofLikePaidTheFewestShops() {
        // 0-1-2 and 3-2 are alike in what is paid.
        cheapest(road("shop 0 0 1 240;shop 0 0 1 240;shop 0 5 1 240;shop 0 0 30 240;next 0 1;next 1 2;next 2 3;free 0;free 3;"), 4, 5, 2, 31);
    }

    static void promise11_cheapest_goesRoundAboutIfThatIsLess() {
        // 2 alone asks 20; by 1, which is KIND and whose GOOD it takes back, half of that.
        cheapest(road("shop 4 9 1 9;shop 4 20 1 9;shop 2 20 1 9;next 0 1;next 1 2;free 0;free 1;free 2;"), 4, 10, 2, 2);
    }

    static void promise11_cheapest_whatWasGivenIsNotHeld() {
        State given = road("shop 0 2 1 240;shop 2 9 1 240;next 0 1;free 0;");
        cheapest(given, 2, 2 + 8, 2, 2);
        noCheapest(given, 3);
        cheapest(and(given, x -> x.free(1, true)), 3, 11, 2, 2);
    }

    static void promise11_cheapest_allThatIsInThePurse() {
        cheapest(with(SIX, 54, 6), 32, 54, 6, 6);
        noCheapest(with(SIX, 53, 6), 32);
        cheapest(with(SIX, 53, 6), 16, 45, 5, 5);
        cheapest(with("shop 0 0 1 9;free 0;", 0, 6), 1, 0, 1, 1);
    }

    static void promise11_cheapest_allThatArmsHold() {
        cheapest(with(SIX, 999, 6), 32, 54, 6, 6);
        noCheapest(with(SIX, 999, 5), 32);
        cheapest(with(SIX, 999, 5), 16, 45, 5, 5);
        cheapest(with(SIX, 999, 1), 1, 9, 1, 1);
    }

    static void promise11_cheapest_mayBeTheDearerIfTheOtherIsTooLate() {
        String street = "shop 0 0 20 240;shop 0 9 1 240;shop 0 1 1 21;next 0 2;next 1 2;free 0;free 1;";
        cheapest(road(street), 4, 1, 2, 21);
        cheapest(road(street.replace(" 21;", " 20;")), 4, 10, 2, 2);
    }

    // ---- 12: "The i-th SHOP (0 on) of ROW by CHEAPEST. -5: not so many, none. BAD: -10."

    static void promise12_row_wantsThatAreNoGoodsAreBad() {
        for (int wants : new int[] {-1, 64, LEAST, MOST}) {
            badEverywhere(-10, x -> x.row(wants, 0));
        }
        refused(Boundary::busy, BAD, -10, x -> x.row(8, 0));
        refused(Boundary::empty, BAD, -10, x -> x.row(1, 0));
    }

    static void promise12_row_placeBelow0IsBad() {
        badEverywhere(-10, x -> x.row(0, -1));
        badEverywhere(-10, x -> x.row(0, LEAST));
        refused(Boundary::busy, BAD, -10, x -> x.row(1, -1));
        badEverywhere(-10, x -> x.row(-1, -1));
    }

    static void promise12_row_beyondTheLastIsMinus5AndNotCounted() {
        row(road(SIX), 32, 0, 1, 2, 3, 4, 5);
        row(road(SIX), 1, 0);
        answered(road(SIX), -5, x -> x.row(63, 7));
        answered(road(SIX), -5, x -> x.row(63, MOST));
    }

    static void promise12_row_noneIsMinus5AndNotCounted() {
        row(road("shop 0 1 1 9;"), 1);
        row(with(SIX, 53, 6), 32);
        answered(road("shop 0 1 1 9;"), -5, x -> x.row(1, MOST));
    }

    static void promise12_row_wantsNoneHasNoShops() {
        row(Boundary::empty, 0);
        row(Boundary::busy, 0);
        row(Boundary::full, 0);
    }

    static void promise12_row_ofLikeOnesTheFirstByShopsInTheirOrder() {
        // 0-1-3 and 0-2-3 are alike but for the minutes.
        String street = "shop 0 2 1 240;shop 0 3 9 240;shop 0 3 1 240;shop 0 4 1 240;next 0 1;next 1 3;next 0 2;next 2 3;free 0;";
        row(road(street), 8, 0, 1, 3);
        row(road(street), 12, 0, 2, 3);
        String nothing = "shop 0 0 1 240;shop 0 0 1 240;shop 0 0 1 240;next 0 1;next 1 2;next 0 2;free 1;free 0;";
        row(road(nothing), 7, 0, 1, 2);
        row(road(nothing), 4, 0, 2);
        row(and(road(nothing), x -> x.free(0, false)), 7, 1, 0, 2);
    }

    static void promise12_row_theFewestGoAheadOfTheFirst() {
        // 0-1-2 is first by SHOPS, 3-2 is shorter.
        row(road("shop 0 0 1 240;shop 0 0 1 240;shop 0 5 1 240;shop 0 0 30 240;next 0 1;next 1 2;next 2 3;free 0;free 3;"), 4, 3, 2);
    }

    static void promise12_row_theLeastPaidGoesAheadOfTheFewest() {
        // 0-3 is dearer than 1-2-3.
        row(road("shop 0 9 1 240;shop 0 1 1 240;shop 0 1 1 240;shop 0 1 1 240;next 0 3;next 1 2;next 2 3;free 0;free 1;"), 8, 1, 2, 3);
    }

    // ---- 13: "SOONEST. NONE. BAD."

    static void promise13_soonest_wantsThatAreNoGoodsAreBad() {
        for (int wants : new int[] {-1, 64, LEAST, MOST}) {
            badEverywhere(x -> x.soonest(wants));
        }
        refused(Boundary::busy, BAD, x -> x.soonest(8));
        refused(Boundary::empty, BAD, x -> x.soonest(1));
    }

    static void promise13_soonest_wantsNoneIs0() {
        answered(Boundary::empty, 0, x -> x.soonest(0));
        answered(Boundary::busy, 0, x -> x.soonest(0));
        answered(with(SIX, 0, 1), 0, x -> x.soonest(0));
    }

    static void promise13_soonest_noneIsNotCounted() {
        answered(road("shop 0 1 1 9;"), NONE, x -> x.soonest(1));
        answered(with(SIX, 53, 6), NONE, x -> x.soonest(32));
        answered(with(SIX, 999, 5), NONE, x -> x.soonest(32));
    }

    static void promise13_soonest_isByTheMinuteNotByWhatIsPaid() {
        answered(road(TWO_WAYS), 3, x -> x.soonest(8));
        answered(road(TWO_WAYS), 11, x -> x.cheapest(8, 2));
        answered(road(TWO_WAYS), 11, x -> x.soonest(12));
        answered(road(TWO_WAYS), 12, x -> x.soonest(15));
    }

    static void promise13_soonest_goesRoundAboutIfThatIsSooner() {
        // 0-3 by itself takes 31, 1-2-3 three.
        answered(road("shop 0 0 30 240;shop 0 9 1 240;shop 0 9 1 240;shop 0 9 1 240;next 0 3;next 1 2;next 2 3;free 0;free 1;"), 3, x -> x.soonest(8));
    }

    static void promise13_soonest_isPaidFromThePurse() {
        answered(with(TWO_WAYS, 9, 6), 3, x -> x.soonest(8));
        answered(with(TWO_WAYS, 8, 6), 11, x -> x.soonest(8));
        answered(with(TWO_WAYS, 6, 6), NONE, x -> x.soonest(8));
    }

    static void promise13_soonest_isServedByShutToTheMinute() {
        answered(road("shop 0 0 30 30;free 0;"), 30, x -> x.soonest(1));
        answered(road("shop 0 0 30 29;free 0;"), NONE, x -> x.soonest(1));
    }

    static void promise13_soonest_mayBeMinute240() {
        String slow = "shop 3 0 30 240;shop 3 0 30 240;shop 3 0 30 240;shop 3 0 30 240;shop 0 0 1 240;free 0;next 0 1;next 1 2;next 2 3;next 3 4;";
        answered(road(slow), 240, x -> x.soonest(15));
        answered(road(slow), 240, x -> x.soonest(8));
        answered(road(slow), NONE, x -> x.soonest(16));
    }

    static void promise13_soonest_andCheapestDoNotLeadEachOther() {
        NextDoor x = made(road(TWO_WAYS));
        due("CHEAPEST", x.cheapest(8, 0), 7);
        due("SOONEST", x.soonest(8), 3);
        due("CHEAPEST", x.cheapest(8, 0), 7);
        due("its ROW", x.row(8, 1), 2);
        due("SOONEST", x.soonest(8), 3);
    }

    static void promise13_soonest_whatWasShutForACallIsOpenBehindIt() {
        NextDoor x = made(road(TWO_WAYS));
        x.shutOut(1);
        due("SOONEST", x.soonest(8), 3);
        x.mends(1);
        due("SOONEST", x.soonest(8), 3);
        due("CHEAPEST", x.cheapest(10, 0), 9);
    }

    // ---- 14: "FREE's WORTH. BAD: -1000: it is FREE, too; NO: -2000: either is none."

    static void promise14_worth_wantsThatAreNoGoodsAreBad() {
        for (int wants : new int[] {-1, 64, LEAST, MOST}) {
            badEverywhere(-1000, x -> x.worth(wants, 1));
        }
        refused(Boundary::busy, BAD, -1000, x -> x.worth(8, 1));
        refused(Boundary::empty, BAD, -1000, x -> x.worth(0, 0));
    }

    static void promise14_worth_whatIsNoShopIsBad() {
        for (int shop : new int[] {-1, 6, 32, 33, LEAST, MOST}) {
            badEverywhere(-1000, x -> x.worth(0, shop));
        }
        refused(Boundary::busy, BAD, -1000, x -> x.worth(1, 3));
    }

    static void promise14_worth_ofAFreeOneIsBad() {
        refused(Boundary::busy, BAD, -1000, x -> x.worth(1, 0));
        refused(Boundary::full, BAD, -1000, x -> x.worth(0, 0));
        // It goes ahead of NO: 1 has no ERRAND.
        refused(road("shop 0 1 1 0;free 0;"), BAD, -1000, x -> x.worth(1, 0));
    }

    static void promise14_worth_noneNowIsNo() {
        refused(road("shop 0 1 1 9;"), NO, -2000, x -> x.worth(1, 0));
        refused(road("shop 0 1 1 9;shop 0 1 1 9;free 0;"), NO, -2000, x -> x.worth(2, 1));
        refused(road("shop 0 1 1 9;shop 0 1 1 9;free 0;"), NO, -2000, x -> x.worth(3, 1));
    }

    static void promise14_worth_noneEitherWayIsNo() {
        refused(road("shop 0 1 1 0;"), NO, -2000, x -> x.worth(1, 0));
        refused(road("shop 0 1 1 9;shop 0 1 1 9;shop 0 1 1 9;free 0;"), NO, -2000, x -> x.worth(4, 1));
    }

    static void promise14_worth_isCheapestLessCheapestIfItWereFree() {
        State line = road("shop 0 7 1 240;shop 0 5 1 240;shop 0 3 1 240;shop 0 2 1 240;next 0 1;next 1 2;next 2 3;free 0;");
        answered(line, 12, x -> x.worth(4, 2));
        answered(line, 7, x -> x.worth(4, 1));
        answered(line, 15, x -> x.worth(8, 3));
    }

    static void promise14_worth_mayBe0() {
        State line = road("shop 0 7 1 240;shop 0 5 1 240;shop 0 3 1 240;next 0 1;next 1 2;free 0;");
        answered(line, 0, x -> x.worth(0, 1));
        answered(line, 0, x -> x.worth(1, 2));
        answered(line, 0, x -> x.worth(7, 2));
    }

    static void promise14_worth_withinThePurse() {
        String line = "shop 0 7 1 240;shop 0 5 1 240;next 0 1;free 0;";
        answered(with(line, 12, 6), 7, x -> x.worth(2, 1));
        refused(with(line, 11, 6), NO, -2000, x -> x.worth(2, 1));
    }

    // ---- 15: "SHUT OUT, as bits. BAD."

    static void promise15_shutOut_whatIsNoShopIsBad() {
        for (int shop : new int[] {-1, 6, 32, LEAST, MOST}) {
            badEverywhere(x -> x.shutOut(shop));
        }
        refused(Boundary::busy, BAD, x -> x.shutOut(3));
        refused(Boundary::empty, BAD, x -> x.shutOut(0));
    }

    static void promise15_shutOut_ofTheOnlyOneIsItsOwn() {
        answered(road("shop 0 1 1 9;free 0;"), 1, x -> x.shutOut(0));
    }

    static void promise15_shutOut_whatHadNoErrandIsNotShutOut() {
        answered(road("shop 0 1 1 9;"), 0, x -> x.shutOut(0));
        answered(road("shop 0 1 1 9;shop 0 1 1 9;free 0;"), 0, x -> x.shutOut(1));
        answered(road("shop 0 1 1 9;shop 0 1 1 9;free 0;"), 1, x -> x.shutOut(0));
    }

    static void promise15_shutOut_allThatCameByIt() {
        State line = road(SIX);
        for (int shop = 0; shop < 6; shop++) {
            int shut = shop;
            answered(line, 63 & -(1 << shop), x -> x.shutOut(shut));
        }
    }

    static void promise15_shutOut_whatHasAnotherWayHasOneNow() {
        answered(road(TWO_WAYS), 2, x -> x.shutOut(1));
        answered(road(TWO_WAYS), 4, x -> x.shutOut(2));
    }

    static void promise15_shutOut_anotherWayMustBeWithinPurseAndShut() {
        // By 1 it is 9, by 2 it is 7.
        answered(with(TWO_WAYS, 9, 6), 4, x -> x.shutOut(2));
        answered(with(TWO_WAYS, 8, 6), 12, x -> x.shutOut(2));
        String shutAt = "shop 0 2 1 240;shop 0 3 1 240;shop 0 1 9 240;shop 0 4 1 11;next 0 1;next 1 3;next 0 2;next 2 3;free 0;";
        answered(road(shutAt), 2, x -> x.shutOut(1));
        answered(road(shutAt.replace(" 11;", " 10;")), 10, x -> x.shutOut(1));
    }

    static void promise15_shutOut_grandNeedsTwoOthers() {
        State three = road("shop 0 1 1 240;shop 0 1 1 240;shop 5 1 1 240;next 0 1;next 1 2;next 0 2;free 0;free 1;");
        answered(three, 5, x -> x.shutOut(0));
        answered(three, 6, x -> x.shutOut(1));
        answered(three, 4, x -> x.shutOut(2));
    }

    // ---- 16: "MENDS. NONE. BAD."

    static void promise16_mends_whatIsNoShopIsBad() {
        for (int shop : new int[] {-1, 6, 32, LEAST, MOST}) {
            badEverywhere(x -> x.mends(shop));
        }
        refused(Boundary::busy, BAD, x -> x.mends(3));
        refused(Boundary::empty, BAD, x -> x.mends(0));
    }

    static void promise16_mends_noneAreNeededIs0() {
        answered(road("shop 0 1 1 9;free 0;"), 0, x -> x.mends(0));
        answered(road("shop 0 1 1 9;"), 0, x -> x.mends(0));
        answered(road(SIX), 0, x -> x.mends(5));
        answered(road(TWO_WAYS), 0, x -> x.mends(1));
    }

    static void promise16_mends_oneAndTwo() {
        String hub = "shop 0 1 1 240;shop 0 1 1 240;shop 0 1 1 240;shop 0 1 1 240;next 0 1;next 1 2;next 1 3;free 0;";
        answered(road(hub), 2, x -> x.mends(1));
        answered(road(hub + "next 2 3;"), 1, x -> x.mends(1));
        answered(road(SIX), 1, x -> x.mends(1));
    }

    static void promise16_mends_anyTwoPairsMayBeTheNewOnes() {
        // 2 and 3 are each come to from 0 alone, in time: what goes by one of them to the other is too late.
        answered(road("shop 0 1 1 240;shop 0 1 1 240;shop 0 1 2 4;shop 0 1 2 4;next 0 1;next 1 2;next 1 3;free 0;"), 2, x -> x.mends(1));
        // The same with 5 as the one where all begin, 3 and 4 as the others.
        answered(road("shop 0 1 1 240;shop 0 1 1 0;shop 0 1 1 0;shop 0 1 2 4;shop 0 1 2 4;shop 0 1 1 240;next 0 5;next 0 3;next 0 4;free 5;"), 2, x -> x.mends(0));
    }

    static void promise16_mends_twoAtMostElseNone() {
        String hub = "shop 0 1 1 240;shop 0 1 1 240;shop 0 1 1 240;shop 0 1 1 240;shop 0 1 1 240;next 0 1;next 1 2;next 1 3;next 1 4;free 0;";
        answered(road(hub), NONE, x -> x.mends(1));
        answered(road(hub + "next 2 3;"), 2, x -> x.mends(1));
    }

    static void promise16_mends_noneWhereNobodyBegins() {
        answered(road(SIX), NONE, x -> x.mends(0));
        answered(road("shop 0 1 1 9;shop 0 1 1 9;next 0 1;free 0;"), NONE, x -> x.mends(0));
    }

    static void promise16_mends_thatOfTheShopItselfNeedHaveNone() {
        answered(road("shop 0 1 1 9;shop 0 1 1 9;next 0 1;free 0;"), 0, x -> x.mends(1));
    }

    static void promise16_mends_whatHadNoErrandNeedHaveNone() {
        answered(road("shop 0 1 1 240;shop 0 1 1 240;shop 0 1 1 240;shop 0 1 1 240;next 0 1;next 1 2;free 0;"), 1, x -> x.mends(1));
        answered(road("shop 0 1 1 240;shop 0 1 1 240;shop 0 1 1 0;next 0 1;next 1 2;free 0;"), 0, x -> x.mends(1));
    }

    static void promise16_mends_anyPairMayBeTheNewOne() {
        // One begins, the other is come to by the one that is shut alone: only those two, new NEIGHBOURS, mend it.
        for (int a = 0; a < 6; a++) {
            for (int b = 0; b < 6; b++) {
                int begins = a;
                int far = b;
                int shut = a == 0 || b == 0 ? (a == 1 || b == 1 ? 2 : 1) : 0;
                if (a != b) {
                    answered(x -> {
                        for (int i = 0; i < 6; i++) {
                            x.shop(0, 1, 1, i == begins ? 1 : i == far ? 3 : i == shut ? 2 : 0);
                        }
                        x.free(begins, true);
                        x.next(begins, shut, true);
                        x.next(shut, far, true);
                    }, 1, x -> x.mends(shut));
                }
            }
        }
    }

    static void promise16_mends_aNewNeighbourMustBringItInTime() {
        // By 0 only, which takes 30 minutes; 2 is shut by then.
        answered(road("shop 0 1 30 240;shop 0 1 1 240;shop 0 1 1 31;next 1 2;free 0;free 1;"), 1, x -> x.mends(1));
        answered(road("shop 0 1 30 240;shop 0 1 1 240;shop 0 1 1 30;next 1 2;free 0;free 1;"), NONE, x -> x.mends(1));
    }

    static void promise16_mends_aNewNeighbourMustBringItWithinThePurse() {
        String street = "shop 0 9 1 240;shop 0 1 1 240;shop 0 1 1 240;next 1 2;free 0;free 1;";
        answered(with(street, 10, 6), 1, x -> x.mends(1));
        answered(with(street, 9, 6), NONE, x -> x.mends(1));
    }
}
