import java.math.BigInteger;

/** The boundary cases of promises 23 to 27: images, what was refused, how many there are, the digest. */
public final class BoundariesState extends Boundary {
    public static void main(String[] args) {
        runAll(BoundariesState.class, 23, 27);
    }

    private static void status(NextDoor x, int bad, int no, int full) {
        due("BAD", x.status(0), bad);
        due("NO", x.status(1), no);
        due("FULL", x.status(2), full);
    }

    /** Changes each part of what an IMAGE keeps. */
    private static void turnAllOver(NextDoor x) {
        read(x, "shop 3 1 1 1;shop 3 2 2 2;free 1;buy 1;buy 0;buy 1;");
        x.clear();
        type(x, "other bytes");
        x.put(0, 1);
        x.put(1, 1);
        x.leave();
        x.buyer(1, 11);
    }

    // ---- 23: "An IMAGE is kept: 1. BAD."

    static void promise23_image_anotherIsBad() {
        for (int i : new int[] {-1, 2, LEAST, MOST}) {
            badEverywhere(x -> x.image(i));
        }
    }

    static void promise23_image_0And1AreKept() {
        for (int i = 0; i < 2; i++) {
            NextDoor x = made(Boundary::busy);
            long before = x.digest();
            due("IMAGE " + i, x.image(i), 1);
            due("nothing else is changed", x.digest(), before);
            turnAllOver(x);
            due("from it", x.from(i), 1);
            due("all is so again", x.digest(), before);
        }
    }

    static void promise23_image_ofANewObject() {
        NextDoor x = new NextDoor();
        due("kept", x.image(0), 1);
        turnAllOver(x);
        due("from it", x.from(0), 1);
        due("nothing again", x.digest(), hash(0, 0, 0, 0, 0, 999, 6));
    }

    static void promise23_image_ofAFullObject() {
        NextDoor x = made(Boundary::full);
        long before = x.digest();
        due("kept", x.image(0), 1);
        turnAllOver(x);
        due("from it", x.from(0), 1);
        due("all is so again", x.digest(), before);
        due("200 bytes", x.type('x', 1), FULL);
        due("6 SHOPS", x.shop(0, 0, 1, 0), FULL);
        due("6 BUYERS", x.buyer(0, 0), FULL);
    }

    static void promise23_image_oneIsNotTheOther() {
        NextDoor x = made(Boundary::busy);
        long first = x.digest();
        x.image(0);
        turnAllOver(x);
        long second = x.digest();
        x.image(1);
        x.from(0);
        due("the first", x.digest(), first);
        x.from(1);
        due("the second", x.digest(), second);
    }

    static void promise23_image_theNewerTakesThePlaceOfTheOlder() {
        NextDoor x = made(Boundary::busy);
        x.image(0);
        turnAllOver(x);
        long newer = x.digest();
        due("kept again", x.image(0), 1);
        x.put(0, 500);
        x.from(0);
        due("the newer", x.digest(), newer);
    }

    static void promise23_image_isNotChangedByWhatComesBehindIt() {
        NextDoor x = made(Boundary::busy);
        long before = x.digest();
        x.image(0);
        x.price(0, 20);
        x.next(0, 2, true);
        x.free(2, true);
        x.shop(0, 1, 1, 1);
        x.put(0, 7);
        x.put(1, 3);
        x.buyer(0, 1);
        x.type('x', 1);
        x.from(0);
        due("as it was", x.digest(), before);
    }

    static void promise23_image_keepsNoStatus() {
        NextDoor x = new NextDoor();
        x.image(0);
        x.shop(9, 9, 9, 9);
        x.free(0, true);
        x.from(1);
        x.from(0);
        status(x, 2, 1, 0);
    }

    static void promise23_image_keepsNoImages() {
        NextDoor x = made(Boundary::busy);
        x.image(0);
        x.put(0, 500);
        long newer = x.digest();
        x.image(1);
        x.from(0);
        due("the other is still there", x.from(1), 1);
        due("as it was kept", x.digest(), newer);
    }

    // ---- 24: "It goes on from an IMAGE: 1. BAD; NO: none was kept."

    static void promise24_from_anotherIsBad() {
        for (int i : new int[] {-1, 2, LEAST, MOST}) {
            badEverywhere(x -> x.from(i));
        }
    }

    static void promise24_from_whereNoneWasKeptIsNo() {
        refused(Boundary::empty, NO, x -> x.from(0));
        refused(Boundary::empty, NO, x -> x.from(1));
        refused(Boundary::busy, NO, x -> x.from(0));
        refused(and(Boundary::empty, x -> x.image(0)), NO, x -> x.from(1));
    }

    static void promise24_from_mayBeGoneOnFromTwice() {
        NextDoor x = made(Boundary::full);
        due("first", x.from(0), 1);
        long image = x.digest();
        turnAllOver(x);
        due("second", x.from(0), 1);
        due("the same", x.digest(), image);
    }

    static void promise24_from_leavesTheImageAsItIs() {
        NextDoor x = made(Boundary::busy);
        x.from(1);
        long image = x.digest();
        x.price(0, 20);
        x.next(0, 1, false);
        x.buyer(0, 1);
        x.type('x', 1);
        x.from(1);
        due("as it was kept", x.digest(), image);
    }

    static void promise24_from_leavesStatusAndIsNotCounted() {
        NextDoor x = new NextDoor();
        x.image(0);
        x.shop(9, 9, 9, 9);
        x.free(0, true);
        x.from(1);
        due("goes on", x.from(0), 1);
        status(x, 2, 1, 0);
    }

    static void promise24_from_goesOnWithAllItHad() {
        NextDoor x = made(Boundary::busy);
        int paid = x.errand(1);
        int taken = x.takes(0);
        int rounds = x.changes(NONE);
        int wanted = x.wanted(NONE);
        x.image(0);
        turnAllOver(x);
        x.from(0);
        due("THE ERRAND", x.errand(1), paid);
        due("TAKES", x.takes(0), taken);
        due("CHANGES", x.changes(NONE), rounds);
        due("WANTED", x.wanted(NONE), wanted);
        due("PURSE", x.put(0, 60), 60);
        due("ARMS", x.put(1, 4), 4);
        due("bytes", x.clear(), 3);
        due("BUYERS", x.leave(), 2);
        due("SHOPS", x.shop(0, 0, 1, 0), 3);
    }

    // ---- 25: "STATUS: BAD (0), NO (1), FULL (2). -1: another what (counts as BAD)."

    static void promise25_status_anotherWhatIsMinus1AndCountsAsBad() {
        for (int what : new int[] {-1, 3, LEAST, MOST}) {
            badEverywhere(-1, x -> x.status(what));
        }
    }

    static void promise25_status_isNotCountedItself() {
        for (int what = 0; what < 3; what++) {
            int asked = what;
            answered(Boundary::empty, 0, x -> x.status(asked));
        }
    }

    static void promise25_status_countsEachReasonForItself() {
        NextDoor x = made(Boundary::full);
        int no = x.status(1);
        x.shop(0, 0, 1, 0);
        status(x, 0, no, 1);
        x.free(0, true);
        status(x, 0, no + 1, 1);
        x.free(6, true);
        status(x, 1, no + 1, 1);
    }

    static void promise25_status_answersToldInTheirPlaceCountAsThese() {
        NextDoor x = made(road("shop 0 1 1 0;"));
        due("BAD", x.row(0, -1), -10);
        status(x, 1, 0, 0);
        due("BAD", x.wanted(-2), -10);
        status(x, 2, 0, 0);
        due("BAD", x.worth(0, 1), -1000);
        status(x, 3, 0, 0);
        due("BAD", x.status(3), -1);
        status(x, 4, 0, 0);
        due("NO", x.worth(1, 0), -2000);
        status(x, 4, 1, 0);
    }

    static void promise25_status_noneNotSoManyAndFaultAreNotCounted() {
        NextDoor x = made(road("shop 0 1 1 0;"));
        due("NONE", x.cheapest(1, 0), NONE);
        due("not so many", x.row(0, 0), -5);
        due("none", x.row(1, 0), -5);
        due("NONE", x.soonest(1), NONE);
        due("NONE", x.errand(0), NONE);
        due("not so many", x.wanted(5), -5);
        due("a FAULT", read(x, "x"), -10);
        status(x, 0, 0, 0);
        NextDoor y = made(road("shop 0 1 1 9;shop 0 1 1 9;next 0 1;free 0;"));
        due("NONE", y.mends(0), NONE);
        status(y, 0, 0, 0);
    }

    static void promise25_status_countsOnThroughReadClearLeaveAndFrom() {
        NextDoor x = made(Boundary::busy);
        x.status(9);
        x.from(0);
        x.read();
        x.clear();
        x.leave();
        x.from(1);
        status(x, 1, 1, 0);
    }

    static void promise25_status_countsManyOfThem() {
        NextDoor x = new NextDoor();
        for (int i = 0; i < 400; i++) {
            x.count(-1);
        }
        due("BAD", x.status(0), 400);
    }

    // ---- 26: "How many: 0 SHOPS, 1 SHOPS of THE ERRAND, 2 bytes of THE ROAD, 3 BUYERS. BAD."

    static void promise26_count_anotherWhatIsBad() {
        for (int what : new int[] {-1, 4, LEAST, MOST}) {
            badEverywhere(x -> x.count(what));
        }
    }

    static void promise26_count_ofAnEmptyObject() {
        for (int what = 0; what < 4; what++) {
            int asked = what;
            answered(Boundary::empty, 0, x -> x.count(asked));
        }
    }

    static void promise26_count_ofABusyObject() {
        int[] many = {3, 2, 3, 2};
        for (int what = 0; what < 4; what++) {
            int asked = what;
            answered(Boundary::busy, many[what], x -> x.count(asked));
        }
    }

    static void promise26_count_ofAFullObject() {
        int[] many = {6, 12, 200, 6};
        for (int what = 0; what < 4; what++) {
            int asked = what;
            answered(Boundary::full, many[what], x -> x.count(asked));
        }
    }

    // ---- 27: "h = 647; then h = 31 h + v for each v: count(0) to count(3); of SHOPS KIND, PRICE, MINUTES, SHUT, NEIGHBOURS (bits); .."

    static void promise27_digest_ofAnEmptyObject() {
        due("digest", new NextDoor().digest(), hash(0, 0, 0, 0, 0, 999, 6));
    }

    static void promise27_digest_allInItsOrder() {
        NextDoor x = made(Boundary::busy);
        due("digest", x.digest(), hash(3, 2, 3, 2, 0, 7, 4, 240, 2, 1, 5, 2, 200, 5, 2, 9, 3, 100, 2, 1, 60, 4, 0, 1, 'a', 'b', ';', 2, 50, 1, 13));
    }

    static void promise27_digest_bytesAre0To255() {
        NextDoor x = new NextDoor();
        x.type(0x7f80ff00L, 4);
        due("digest", x.digest(), hash(0, 0, 4, 0, 0, 999, 6, 127, 128, 255, 0));
    }

    static void promise27_digest_wrapsAround() {
        NextDoor x = new NextDoor();
        type(x, "z".repeat(200));
        BigInteger h = BigInteger.valueOf(647);
        for (int v : new int[] {0, 0, 200, 0, 0, 999, 6}) {
            h = h.multiply(BigInteger.valueOf(31)).add(BigInteger.valueOf(v));
        }
        for (int i = 0; i < 200; i++) {
            h = h.multiply(BigInteger.valueOf(31)).add(BigInteger.valueOf('z'));
        }
        due("the lowest 64 bits of it", x.digest(), h.longValue());
        due("the whole is longer", h.bitLength() > 64 ? 1 : 0, 1);
    }

    static void promise27_digest_ofImagesAndStatusNothing() {
        NextDoor x = made(Boundary::busy);
        long before = x.digest();
        x.image(0);
        x.status(9);
        x.free(0, true);
        due("digest", x.digest(), before);
    }

    static void promise27_digest_isNotCountedAndChangesNothing() {
        NextDoor twin = made(Boundary::full);
        answered(Boundary::full, twin.digest(), NextDoor::digest);
    }
}
