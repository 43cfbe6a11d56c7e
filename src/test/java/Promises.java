/** For each promise of the document what it asks by its own words: ordinary calls, edges, wrong ones. */
public final class Promises {
    private static final int NONE = -1, BAD = -2, NO = -3, FULL = -4;
    private static final int LEAST = Integer.MIN_VALUE, MOST = Integer.MAX_VALUE;

    private static int promise;
    private static int asked = 0;
    private static int wrong = 0;

    public static void main(String[] args) {
        newObject();
        shop();
        next();
        free();
        put();
        price();
        type();
        clear();
        readWhole();
        readFaults();
        errandKinds();
        errandWhy();
        cheapest();
        row();
        soonest();
        worth();
        shutOut();
        mends();
        buyer();
        leave();
        takes();
        asks();
        changes();
        wanted();
        images();
        status();
        count();
        digest();
        System.out.println(wrong == 0 ? "all " + asked + " answers are as due" : wrong + " answers are not as due");
        if (wrong != 0) {
            System.exit(1);
        }
    }

    private static void due(String what, long got, long want) {
        asked++;
        if (got != want) {
            wrong++;
            System.out.println("promise " + promise + ": " + what + " answered " + got + ", due is " + want);
        }
    }

    private static void typeText(NextDoor x, String text) {
        for (int i = 0; i < text.length(); i++) {
            x.type(text.charAt(i), 1);
        }
    }

    private static int readText(NextDoor x, String text) {
        x.clear();
        typeText(x, text);
        return x.read();
    }

    private static NextDoor road(String text) {
        NextDoor x = new NextDoor();
        int items = readText(x, text);
        if (items < 0) {
            due("the road " + text, items, 0);
        }
        return x;
    }

    private static long hash(long... values) {
        long h = 647;
        for (long v : values) {
            h = 31 * h + v;
        }
        return h;
    }

    private static void status(NextDoor x, int bad, int no, int full) {
        due("status(0)", x.status(0), bad);
        due("status(1)", x.status(1), no);
        due("status(2)", x.status(2), full);
    }

    private static void newObject() {
        promise = 1;
        NextDoor x = new NextDoor();
        for (int what = 0; what < 4; what++) {
            due("count " + what, x.count(what), 0);
        }
        status(x, 0, 0, 0);
        due("digest", x.digest(), hash(0, 0, 0, 0, 0, 999, 6));
        due("purse", x.put(0, 999), 999);
        due("arms", x.put(1, 6), 6);
        due("errand", x.errand(0), NONE);
        due("from", x.from(0), NO);
        due("from", x.from(1), NO);
        due("NONE", NextDoor.NONE, -1);
        due("BAD", NextDoor.BAD, -2);
        due("NO", NextDoor.NO, -3);
        due("FULL", NextDoor.FULL, -4);
    }

    private static void shop() {
        promise = 2;
        NextDoor x = new NextDoor();
        int[][] bad = {{-1, 0, 1, 0}, {6, 0, 1, 0}, {0, -1, 1, 0}, {0, 21, 1, 0}, {0, 0, 0, 0}, {0, 0, 31, 0}, {0, 0, 1, -1},
            {0, 0, 1, 241}, {LEAST, 0, 1, 0}, {MOST, 0, 1, 0}, {0, LEAST, 1, 0}, {0, MOST, 1, 0}, {0, 0, LEAST, 0},
            {0, 0, MOST, 0}, {0, 0, 1, LEAST}, {0, 0, 1, MOST}};
        for (int[] b : bad) {
            due("a bad shop", x.shop(b[0], b[1], b[2], b[3]), BAD);
        }
        due("none came", x.count(0), 0);
        due("least", x.shop(0, 0, 1, 0), 0);
        due("most", x.shop(5, 20, 30, 240), 1);
        for (int i = 2; i < 6; i++) {
            due("one more", x.shop(i, i, i, i), i);
        }
        due("a 7th", x.shop(0, 0, 1, 0), FULL);
        due("BAD goes ahead of FULL", x.shop(0, 0, 0, 0), BAD);
        due("six", x.count(0), 6);
        due("as told", x.digest(), hash(6, 0, 0, 0, 0, 0, 1, 0, 0, 5, 20, 30, 240, 0, 2, 2, 2, 2, 0, 3, 3, 3, 3, 0,
            4, 4, 4, 4, 0, 5, 5, 5, 5, 0, 0, 999, 6));
        status(x, bad.length + 1, 0, 1);
    }

    private static void next() {
        promise = 3;
        NextDoor x = new NextDoor();
        due("no shops", x.next(0, 1, true), BAD);
        x.shop(0, 1, 1, 10);
        x.shop(0, 2, 1, 10);
        x.shop(0, 3, 1, 10);
        due("alike", x.next(1, 1, true), BAD);
        due("alike, not", x.next(1, 1, false), BAD);
        due("no such a", x.next(3, 0, true), BAD);
        due("no such b", x.next(0, 3, true), BAD);
        due("below a", x.next(-1, 0, true), BAD);
        due("below b", x.next(0, -1, false), BAD);
        due("far", x.next(LEAST, MOST, true), BAD);
        due("not yet", x.next(0, 2, false), NO);
        due("are", x.next(0, 2, true), 1);
        due("are so", x.next(0, 2, true), NO);
        due("are so from the other side", x.next(2, 0, true), NO);
        due("both know", x.digest(), hash(3, 0, 0, 0, 0, 1, 1, 10, 4, 0, 2, 1, 10, 0, 0, 3, 1, 10, 1, 0, 999, 6));
        due("no more, from the other side", x.next(2, 0, false), 1);
        due("no more", x.next(0, 2, false), NO);
        due("both forget", x.digest(), hash(3, 0, 0, 0, 0, 1, 1, 10, 0, 0, 2, 1, 10, 0, 0, 3, 1, 10, 0, 0, 999, 6));
        status(x, 8, 4, 0);
    }

    private static void free() {
        promise = 4;
        NextDoor x = new NextDoor();
        due("no shops", x.free(0, true), BAD);
        x.shop(0, 7, 1, 10);
        x.shop(0, 3, 1, 10);
        due("below", x.free(-1, true), BAD);
        due("beyond", x.free(2, false), BAD);
        due("far", x.free(32, true), BAD);
        due("not yet", x.free(1, false), NO);
        due("nowhere to begin", x.cheapest(2, 0), NONE);
        due("is", x.free(1, true), 1);
        due("is so", x.free(1, true), NO);
        due("one begins there", x.cheapest(2, 0), 3);
        due("not at the other", x.cheapest(1, 0), NONE);
        due("bits", x.digest(), hash(2, 0, 0, 0, 0, 7, 1, 10, 0, 0, 3, 1, 10, 0, 2, 999, 6));
        due("no more", x.free(1, false), 1);
        due("nowhere to begin", x.cheapest(2, 0), NONE);
        status(x, 4, 2, 0);
    }

    private static void put() {
        promise = 5;
        NextDoor x = new NextDoor();
        due("purse", x.put(0, 0), 999);
        due("purse", x.put(0, 999), 0);
        due("purse", x.put(0, 12), 999);
        due("arms", x.put(1, 1), 6);
        due("arms", x.put(1, 6), 1);
        due("arms", x.put(1, 3), 6);
        due("below", x.put(0, -1), BAD);
        due("above", x.put(0, 1000), BAD);
        due("below", x.put(1, 0), BAD);
        due("above", x.put(1, 7), BAD);
        due("another", x.put(2, 3), BAD);
        due("another", x.put(-1, 3), BAD);
        due("far", x.put(LEAST, MOST), BAD);
        due("digest", x.digest(), hash(0, 0, 0, 0, 0, 12, 3));
        status(x, 7, 0, 0);
        NextDoor y = road("shop 0 7 1 240;shop 0 5 1 240;next 0 1;free 0;");
        y.put(0, 12);
        due("just enough", y.cheapest(2, 0), 12);
        y.put(0, 11);
        due("too little", y.cheapest(2, 0), NONE);
        y.put(0, 999);
        y.put(1, 2);
        due("two hands", y.cheapest(2, 0), 12);
        y.put(1, 1);
        due("one hand", y.cheapest(2, 0), NONE);
    }

    private static void price() {
        promise = 6;
        NextDoor x = road("shop 1 7 1 240;shop 0 5 1 240;next 0 1;free 0;free 1;");
        due("was", x.price(0, 20), 7);
        due("was", x.price(0, 0), 20);
        due("is", x.cheapest(1, 0), 0);
        due("was, as told, not as asked", x.price(0, 4), 0);
        due("is", x.cheapest(1, 0), 4);
        due("below", x.price(0, -1), BAD);
        due("above", x.price(0, 21), BAD);
        due("no shop", x.price(2, 3), BAD);
        due("no shop", x.price(-1, 3), BAD);
        due("was", x.price(1, 9), 5);
        due("was", x.price(1, 9), 9);
        status(x, 4, 0, 0);
    }

    private static void type() {
        promise = 7;
        NextDoor x = new NextDoor();
        due("the lowest bytes", x.type(0x4142434445464748L, 3), 3);
        due("highest first", x.digest(), hash(0, 0, 3, 0, 0, 999, 6, 0x46, 0x47, 0x48));
        due("bytes of a number below 0", x.type(-2L, 2), 5);
        due("0 to 255", x.digest(), hash(0, 0, 5, 0, 0, 999, 6, 0x46, 0x47, 0x48, 255, 254));
        due("none", x.type(1L, 0), BAD);
        due("nine", x.type(1L, 9), BAD);
        due("far", x.type(1L, LEAST), BAD);
        due("far", x.type(1L, MOST), BAD);
        x.clear();
        for (int i = 1; i <= 24; i++) {
            due("eight", x.type(0x2020202020202020L, 8), 8 * i);
        }
        due("seven more", x.type(0x20202020202020L, 7), 199);
        due("beyond", x.type(0x2020L, 2), FULL);
        due("nothing came", x.count(2), 199);
        due("the last", x.type(0x20L, 1), 200);
        due("beyond", x.type(0x20L, 1), FULL);
        due("BAD goes ahead", x.type(0x20L, 0), BAD);
        due("all blanks", x.read(), 0);
        status(x, 5, 0, 2);
    }

    private static void clear() {
        promise = 8;
        NextDoor x = new NextDoor();
        due("empty", x.clear(), 0);
        String text = "shop 0 7 1 240;free 0;buy 0;";
        typeText(x, text);
        x.read();
        due("had", x.clear(), text.length());
        due("empty", x.count(2), 0);
        due("had", x.clear(), 0);
        due("what was read stays", x.errand(1), 7);
        due("what was read stays", x.count(0), 1);
        due("what was read stays", x.count(1), 1);
    }

    private static void readWhole() {
        promise = 9;
        NextDoor x = new NextDoor();
        due("an empty road", x.read(), 0);
        due("one item", readText(x, "shop 5 20 30 240;"), 1);
        due("as told", x.digest(), hash(1, 0, 17, 0, 5, 20, 30, 240, 0, 0, 999, 6, 's', 'h', 'o', 'p', ' ', '5', ' ', '2', '0',
            ' ', '3', '0', ' ', '2', '4', '0', ';'));
        due("blanks or none", readText(x, "  shop0 0 1 0;shop 003 010   05 007 ; free1;next  1 0;free 1;buy1;buy 0;buy 1;  "), 8);
        x.clear();
        due("all of it", x.digest(), hash(2, 3, 0, 0, 0, 0, 1, 0, 2, 3, 10, 5, 7, 1, 2, 999, 6, 1, 0, 1));
        x.put(0, 50);
        x.put(1, 4);
        x.buyer(1, 33);
        due("another", readText(x, "shop 1 2 3 4;"), 1);
        x.clear();
        due("takes the place of all but purse, arms, buyers", x.digest(), hash(1, 0, 0, 1, 1, 2, 3, 4, 0, 0, 50, 4, 1, 33));
        due("a new shop has no neighbours of old", x.shop(0, 0, 1, 0), 1);
        due("none", x.next(0, 1, false), NO);
        due("nor is it free", x.free(1, false), NO);
        due("an empty one", readText(x, ""), 0);
        due("no shops then", x.count(0), 0);
        due("six shops, twelve to buy", readText(x, "shop 0 0 1 0;shop 0 0 1 0;shop 0 0 1 0;shop 0 0 1 0;shop 0 0 1 0;shop 0 0 1 0;"
            + "buy 5;buy 5;buy 5;buy 5;buy 5;buy 5;buy 5;buy 5;buy 5;buy 5;buy 5;buy 5;"), 18);
        due("twelve", x.count(1), 12);
        status(x, 0, 2, 0);
    }

    private static void readFaults() {
        promise = 9;
        NextDoor x = road("shop 0 7 1 240;free 0;buy 0;");
        x.clear();
        long before = x.digest();
        // The mark ^ stands ahead of the byte where the FAULT is, and is not typed.
        String[] faults = {"^shops 0 0 1 1;", "^sho", "^;", "^7", "^Shop 0 0 1 1;", "shop ^x 0 1 1;", "shop ^6 0 1 1;", "shop 0 ^21 1 1;",
            "shop 0 0 ^0 1;", "shop 0 0 ^31 1;", "shop 0 0 1 ^241;", "shop 0 0 1 ^0001;", "shop ^0000 0 1 1;", "shop 0 ^;", "shop 0 0 1 1 ^1;",
            "shop 0 0 1 1^", "shop 0 0 1^", "shop 0 0 ^", "shop^", "shop 0 0 1 1; ^.", "shop 0 0 1 1;  ^;", "shop 0 0 1 ^-1;", "shop 0 0 1 1 ^shop 0 0 1 1;",
            "free ^0;", "buy ^0;", "next ^0 1;", "shop 0 0 1 1;free ^1;", "shop 0 0 1 1;buy ^1;", "shop 0 0 1 1;next 0 ^0;", "shop 0 0 1 1;next 0 ^1;",
            "shop 0 0 1 1;next ^1 0;", "shop 0 0 1 1;next 0^", "shop 0 0 1 1;next 0 ^;", "shop 0 0 1 1;next 0 ^x;", "shop 0 0 1 1;free 0 ^0;", "shop 0 0 1 1;buy 0 ^buy 0;",
            "shop 0 0 1 1;shop 0 0 1 1;next 0 1;next 1 ^0;", "shop 0 0 1 1;shop 0 0 1 1;next 1 0;next 1 ^0;", "shop 0 0 1 1;shop 0 0 1 1;next 0 1 ^1;",
            "^zhop 0 0 1 1;", "^xuy 0;", "^shopa 0 0 1 1;", "^shopz 0 0 1 1;", "^shoq 0 0 1 1;", "shop^` 0 0 1 1;", "shop^{ 0 0 1 1;",
            "shop ^/ 0 1 1;", "shop ^: 0 1 1;", "shop 0 0 1 1^.", "shop 0 0 1 1^:", "shop 0 0 1 1 ^x;", "shop0^shop;",
            "^\u0000", "^\u00e9", "shop 0 0 1 1;^\t", "shop ^1234567890123 0 1 1;", "shop 0^,0 1 1;", "buy^",
            "shop 0 0 1 1;shop 0 0 1 1;shop 0 0 1 1;shop 0 0 1 1;shop 0 0 1 1;shop 0 0 1 1;^shop 0 0 1 1;",
            "shop 0 0 1 1;buy 0;buy 0;buy 0;buy 0;buy 0;buy 0;buy 0;buy 0;buy 0;buy 0;buy 0;buy 0; ^buy 0;"};
        for (String fault : faults) {
            int place = fault.indexOf('^');
            String text = fault.replace("^", "");
            due("the road " + fault, readText(x, text), -10 - place);
            x.clear();
            due("all stays", x.digest(), before);
        }
        status(x, 0, 0, 0);
        // Nothing of a longer road of before is read behind the end of a shorter one.
        due("a longer one", readText(x, "shop 0 0 1 1111111;"), -10 - 11);
        due("a shorter one", readText(x, "shop 0 0 1 1"), -10 - 12);
        due("a longer one", readText(x, "shopshop"), -10);
        due("a shorter one", readText(x, "shop"), -10 - 4);
        String blanks = " ".repeat(199);
        due("a figure at the very end", readText(x, blanks + "1"), -10 - 199);
        due("a letter at the very end", readText(x, blanks + "x"), -10 - 199);
        due("an end that is too early, at the very end", readText(x, blanks.substring(4) + "shop "), -10 - 200);
        due("a number at the very end", readText(x, blanks.substring(6) + "shop 22"), -10 - 198);
        due("a number at the very end", readText(x, blanks.substring(5) + "shop 2"), -10 - 200);
    }

    private static void errand(String road, int why, int paid, int minute, int holds) {
        NextDoor x = road(road);
        errand(x, road, why, paid, minute, holds);
    }

    private static void errand(NextDoor x, String road, int why, int paid, int minute, int holds) {
        due("why of " + road, x.errand(0), why);
        due("paid of " + road, x.errand(1), paid);
        due("minute of " + road, x.errand(2), minute);
        due("holds of " + road, x.errand(3), holds);
    }

    private static void errandKinds() {
        promise = 10;
        errand("", NONE, 0, 0, 0);
        errand("shop 0 7 4 4;free 0;buy 0;", NONE, 7, 4, 1);
        String two = "shop 0 7 4 240;shop 0 5 2 240;next 0 1;free 0;free 1;";
        errand(two + "buy 1;buy 0;", NONE, 12, 6, 3);
        // DEAR: one thing more to pay for each that one holds.
        errand("shop 1 7 4 240;shop 1 5 2 240;shop 1 20 1 240;next 0 1;next 1 2;free 0;buy 0;buy 1;buy 2;", NONE, 7 + 6 + 22, 7, 7);
        // BACK: half of 7, cut, is 3; the GOOD of 0 is given.
        errand("shop 0 7 4 240;shop 2 5 2 240;next 0 1;free 0;buy 0;buy 1;", NONE, 7 + 2, 6, 2);
        // Not below 0.
        errand("shop 0 20 4 240;shop 2 5 2 240;next 0 1;free 0;buy 0;buy 1;", NONE, 20, 6, 2);
        // Not held: as told.
        errand("shop 0 20 4 240;shop 2 5 2 240;next 0 1;free 1;buy 1;buy 0;", NONE, 25, 6, 3);
        // Shop 0 takes that of the last one; the half is of the PRICE as told, not as it was asked.
        errand("shop 2 9 1 240;shop 0 4 1 240;shop 1 7 1 240;next 0 2;next 1 2;free 1;buy 1;buy 2;buy 0;", NONE, 4 + 8 + 6, 3, 3);
        // Alone it takes its own back, which nobody holds.
        errand("shop 2 9 1 240;free 0;buy 0;", NONE, 9, 1, 1);
        // SLOW: twice the minutes, and it is DEAR.
        errand("shop 0 3 1 240;shop 3 5 10 240;next 0 1;free 0;buy 0;buy 1;", NONE, 3 + 6, 21, 3);
        // KIND: for nothing to who holds nothing, else as BACK.
        errand("shop 4 9 1 240;shop 4 9 1 240;shop 4 3 1 240;next 0 1;next 1 2;free 0;buy 0;buy 1;buy 2;", NONE, 0 + 5 + 0, 3, 4);
        errand("shop 0 9 1 240;shop 0 9 1 240;shop 4 3 1 240;next 0 1;next 0 2;free 0;buy 0;buy 2;", NONE, 12, 2, 5);
        // GRAND: to who holds two, and it is DEAR.
        errand("shop 0 1 1 240;shop 0 1 1 240;shop 5 8 1 240;next 0 1;next 1 2;free 0;buy 0;buy 1;buy 2;", NONE, 1 + 1 + 10, 3, 7);
        NextDoor x = road("shop 2 9 1 240;shop 0 8 1 240;next 0 1;free 1;buy 1;buy 0;");
        errand(x, "back of the last", NONE, 8 + 5, 2, 1);
        x.shop(0, 0, 1, 0);
        errand(x, "another is the last now", NONE, 8 + 9, 2, 3);
        x.price(1, 2);
        errand(x, "another price", NONE, 2 + 9, 2, 3);
    }

    private static void errandWhy() {
        promise = 10;
        errand("shop 0 7 4 240;buy 0;", 1, 0, 0, 0);
        String two = "shop 0 7 4 240;shop 0 5 2 240;free 0;";
        errand(two + "buy 1;buy 0;", 1, 0, 0, 0);
        errand(two + "buy 0;buy 1;", 11, 7, 4, 1);
        errand(two + "buy 0;buy 0;", 11, 7, 4, 1);
        errand(two + "next 0 1;buy 0;buy 1;buy 0;", 22, 12, 6, 3);
        // One was there, though what one bought was given back.
        errand("shop 0 7 4 240;shop 2 5 2 240;free 0;next 0 1;buy 0;buy 1;buy 0;", 22, 9, 6, 2);
        errand("shop 5 7 4 240;free 0;buy 0;", 3, 0, 0, 0);
        errand("shop 0 7 4 240;shop 5 5 2 240;next 0 1;free 0;buy 0;buy 1;", 13, 7, 4, 1);
        errand("shop 0 7 4 3;free 0;buy 0;", 4, 0, 0, 0);
        errand("shop 0 7 4 240;shop 0 5 2 6;next 0 1;free 0;buy 0;buy 1;", NONE, 12, 6, 3);
        errand("shop 0 7 4 240;shop 0 5 2 5;next 0 1;free 0;buy 0;buy 1;", 14, 7, 4, 1);
        errand("shop 3 7 4 7;free 0;buy 0;", 4, 0, 0, 0);
        errand("shop 3 7 4 8;free 0;buy 0;", NONE, 7, 8, 1);
        NextDoor x = road("shop 0 7 4 240;shop 0 5 2 240;free 0;next 0 1;buy 0;buy 1;");
        x.put(1, 1);
        errand(x, "one hand", 15, 7, 4, 1);
        x.put(1, 2);
        errand(x, "two hands", NONE, 12, 6, 3);
        x.put(0, 11);
        errand(x, "little in the purse", 16, 7, 4, 1);
        x.put(0, 12);
        errand(x, "just enough", NONE, 12, 6, 3);
        x.put(0, 0);
        errand(x, "nothing in it", 6, 0, 0, 0);
        NextDoor y = road("shop 0 7 4 240;shop 2 5 2 240;free 0;next 0 1;buy 0;buy 1;");
        y.put(1, 1);
        errand(y, "given first", NONE, 9, 6, 2);
        // Each why goes ahead of those behind it.
        NextDoor z = road("shop 5 20 4 3;shop 0 1 1 240;next 0 1;free 1;buy 1;buy 0;");
        z.put(0, 5);
        z.put(1, 1);
        due("GRAND first", z.errand(0), 13);
        readText(z, "shop 1 20 4 3;shop 0 1 1 240;next 0 1;free 1;buy 1;buy 0;");
        due("then too late", z.errand(0), 14);
        readText(z, "shop 1 20 4 9;shop 0 1 1 240;next 0 1;free 1;buy 1;buy 0;");
        due("then too much to hold", z.errand(0), 15);
        z.put(1, 2);
        due("then the purse", z.errand(0), 16);
        due("another what", z.errand(4), BAD);
        due("another what", z.errand(-1), BAD);
        due("far", z.errand(LEAST), BAD);
        status(z, 3, 0, 0);
        NextDoor six = road("shop 0 1 1 9;shop 0 1 1 9;shop 0 1 1 9;shop 0 1 1 9;shop 0 1 1 9;shop 0 1 1 9;free 0;next 0 1;next 1 2;next 2 3;next 3 4;next 4 5;"
            + "buy 0;buy 1;buy 2;buy 3;buy 4;buy 5;buy 4;");
        errand(six, "all six, and one again", 62, 6, 6, 63);
    }

    private static void cheapest() {
        promise = 11;
        NextDoor x = new NextDoor();
        for (int what = 0; what < 3; what++) {
            due("wants none", x.cheapest(0, what), 0);
        }
        due("no such good", x.cheapest(1, 0), BAD);
        due("another what", x.cheapest(0, 3), BAD);
        due("another what", x.cheapest(0, -1), BAD);
        due("below", x.cheapest(-1, 0), BAD);
        due("far", x.cheapest(LEAST, 0), BAD);
        due("far", x.cheapest(MOST, 0), BAD);
        status(x, 6, 0, 0);
        // From 0 to 3 by 1 for 3 more, by 2 for 1 more but later.
        NextDoor y = road("shop 0 2 1 240;shop 0 3 1 240;shop 0 1 9 240;shop 0 4 1 240;next 0 1;next 1 3;next 0 2;next 2 3;free 0;");
        due("paid", y.cheapest(8, 0), 7);
        due("shops", y.cheapest(8, 1), 3);
        due("minute", y.cheapest(8, 2), 11);
        due("two goods, one more that is not wanted", y.cheapest(9, 0), 7);
        due("all", y.cheapest(15, 0), 10);
        due("all", y.cheapest(15, 1), 4);
        due("two, by the other way", y.cheapest(10, 0), 9);
        due("BAD above all shops", y.cheapest(16, 0), BAD);
        // Of like prices the fewest SHOPS, though later by minutes and by number.
        NextDoor z = road("shop 0 0 1 240;shop 0 0 1 240;shop 0 5 1 240;shop 0 0 30 240;next 0 1;next 1 2;next 2 3;free 0;free 3;");
        due("paid", z.cheapest(4, 0), 5);
        due("the fewest", z.cheapest(4, 1), 2);
        due("minute of these", z.cheapest(4, 2), 31);
        // What is wanted may not have been given back on the way.
        NextDoor g = road("shop 0 2 1 240;shop 2 9 1 240;shop 0 3 1 240;next 0 1;next 1 2;free 0;");
        due("the second alone", g.cheapest(2, 0), 2 + 8);
        due("with the first there is no errand", g.cheapest(3, 0), NONE);
        due("none, what 1", g.cheapest(3, 1), NONE);
        due("none, what 2", g.cheapest(3, 2), NONE);
        g.free(1, true);
        due("the other way round", g.cheapest(3, 0), 11);
        // The cheapest of all is too late; the purse keeps no dearer one from being.
        NextDoor l = road("shop 0 0 20 240;shop 0 9 1 240;shop 0 1 1 15;next 0 2;next 1 2;free 0;free 1;");
        due("too late by 0", l.cheapest(4, 0), 10);
        l.put(0, 9);
        due("no purse for it", l.cheapest(4, 0), NONE);
        due("none is bought", l.cheapest(0, 1), 0);
        NextDoor p = road("shop 0 0 1 240;free 0;");
        p.put(0, 0);
        due("for nothing, of nothing", p.cheapest(1, 0), 0);
        due("one shop", p.cheapest(1, 1), 1);
    }

    private static void row() {
        promise = 12;
        NextDoor x = new NextDoor();
        due("none", x.row(0, 0), -5);
        due("none", x.row(0, MOST), -5);
        due("no such good", x.row(1, 0), -10);
        due("below", x.row(0, -1), -10);
        due("below", x.row(-1, 0), -10);
        due("far", x.row(LEAST, LEAST), -10);
        status(x, 4, 0, 0);
        // 0-1-3 and 0-2-3 are alike, 2-0-3 is not tried: the first by SHOPS in their order.
        NextDoor y = road("shop 0 2 1 240;shop 0 3 9 240;shop 0 3 1 240;shop 0 4 1 240;next 0 1;next 1 3;next 0 2;next 2 3;free 0;");
        due("first", y.row(8, 0), 0);
        due("second, though later", y.row(8, 1), 1);
        due("third", y.row(8, 2), 3);
        due("no fourth", y.row(8, 3), -5);
        due("what is asked is brought", y.row(12, 1), 2);
        due("none", y.row(16, 0), -10);
        y.free(2, true);
        due("fewer paid", y.row(8, 0), 2);
        due("fewer paid", y.row(8, 1), 3);
        due("fewer paid", y.row(8, 2), -5);
        y.free(0, false);
        y.free(2, false);
        due("no errand", y.row(8, 0), -5);
        status(y, 1, 0, 0);
        // All for nothing: the fewest, then the first.
        NextDoor z = road("shop 0 0 1 240;shop 0 0 1 240;shop 0 0 1 240;next 0 1;next 1 2;next 0 2;free 1;free 0;");
        due("first", z.row(4, 0), 0);
        due("second", z.row(4, 1), 2);
        due("all of them", z.row(7, 0), 0);
        due("all of them", z.row(7, 1), 1);
        due("all of them", z.row(7, 2), 2);
    }

    private static void soonest() {
        promise = 13;
        NextDoor x = new NextDoor();
        due("wants none", x.soonest(0), 0);
        due("no such good", x.soonest(1), BAD);
        due("below", x.soonest(-1), BAD);
        due("far", x.soonest(MOST), BAD);
        status(x, 3, 0, 0);
        NextDoor y = road("shop 0 2 1 240;shop 0 3 1 240;shop 0 1 9 240;shop 3 4 2 240;next 0 1;next 1 3;next 0 2;next 2 3;free 0;");
        due("by the dear one", y.soonest(8), 1 + 1 + 4);
        due("by the cheap one", y.cheapest(8, 2), 1 + 9 + 4);
        due("all", y.soonest(15), 15);
        y.put(0, 9);
        due("the purse will not do for the dear one", y.soonest(8), 14);
        y.put(0, 3);
        due("nor for any", y.soonest(8), NONE);
        due("none wanted", y.soonest(0), 0);
        NextDoor z = road("shop 0 0 30 240;shop 0 0 1 30;next 0 1;free 0;");
        due("shut by then", z.soonest(2), NONE);
        due("served by then", z.soonest(1), 30);
        z.shutOut(0);
        due("nobody is shut out for long", z.soonest(1), 30);
        NextDoor six = road("shop 0 9 1 99;shop 0 9 1 99;shop 0 9 1 99;shop 0 9 1 99;shop 0 9 1 99;shop 0 9 1 99;next 0 1;next 1 2;next 2 3;next 3 4;next 4 5;free 0;");
        due("all six", six.soonest(63), 6);
        due("all six", six.cheapest(63, 1), 6);
        due("the sixth", six.row(32, 5), 5);
        due("no seventh", six.row(32, 6), -5);
        six.put(0, 54);
        due("all that is in the purse", six.cheapest(32, 0), 54);
        due("all that is in the purse", six.row(63, 5), 5);
        six.put(0, 53);
        due("one less", six.cheapest(32, 0), NONE);
    }

    private static void worth() {
        promise = 14;
        NextDoor x = road("shop 0 7 1 240;shop 0 5 1 240;shop 0 3 1 240;shop 0 2 1 240;next 0 1;next 1 2;free 0;");
        due("saves the first two", x.worth(4, 2), 12);
        due("saves the first", x.worth(4, 1), 7);
        due("saves nothing", x.worth(1, 2), 0);
        due("wants none", x.worth(0, 2), 0);
        due("free already", x.worth(4, 0), -1000);
        due("no such shop", x.worth(4, 4), -1000);
        due("no such shop", x.worth(4, -1), -1000);
        due("no such good", x.worth(16, 1), -1000);
        due("no such good", x.worth(-1, 1), -1000);
        due("none now, one then", x.worth(8, 3), -2000);
        due("none, either way", x.worth(8, 2), -2000);
        status(x, 5, 2, 0);
        due("it is not free by that", x.free(2, false), NO);
    }

    private static void shutOut() {
        promise = 15;
        NextDoor x = road("shop 0 1 1 240;shop 0 1 1 240;shop 0 1 1 240;shop 0 1 1 240;next 0 1;next 1 2;next 0 2;next 2 3;free 0;");
        due("where all begin", x.shutOut(0), 15);
        due("there is a way round", x.shutOut(1), 2);
        due("no way round", x.shutOut(2), 12);
        due("the last", x.shutOut(3), 8);
        x.next(2, 3, false);
        due("what had none has none", x.shutOut(3), 0);
        due("only its own", x.shutOut(2), 4);
        due("no such shop", x.shutOut(4), BAD);
        due("no such shop", x.shutOut(-1), BAD);
        status(x, 2, 0, 0);
        // GRAND 2 needs two things: without 1 there are not so many.
        NextDoor y = road("shop 0 1 1 240;shop 0 1 1 240;shop 5 1 1 240;next 0 1;next 1 2;next 0 2;free 0;free 1;");
        due("grand", y.shutOut(1), 6);
        due("grand", y.shutOut(0), 5);
        due("it sells as ever by that", y.cheapest(4, 1), 3);
    }

    private static void mends() {
        promise = 16;
        NextDoor x = road("shop 0 1 1 240;shop 0 1 1 240;shop 0 1 1 240;shop 0 1 1 240;next 0 1;next 1 2;next 1 3;free 0;");
        long before = x.digest();
        due("the middle one: two", x.mends(1), 2);
        due("the first: none begins", x.mends(0), NONE);
        due("the last: nothing to mend", x.mends(3), 0);
        due("no such shop", x.mends(4), BAD);
        due("no such shop", x.mends(-1), BAD);
        due("nothing changed", x.digest(), before);
        status(x, 2, 0, 0);
        x.next(2, 3, true);
        due("one is enough now", x.mends(1), 1);
        x.next(0, 2, true);
        due("none is needed", x.mends(1), 0);
        NextDoor star = road("shop 0 1 1 240;shop 0 1 1 240;shop 0 1 1 240;shop 0 1 1 240;shop 0 1 1 240;next 0 1;next 1 2;next 1 3;next 1 4;free 0;");
        due("three would be needed", star.mends(1), NONE);
        // What has no ERRAND at first need not have one.
        NextDoor far = road("shop 0 1 1 240;shop 0 1 1 240;shop 0 1 1 240;shop 0 1 1 240;next 0 1;next 1 2;free 0;");
        due("3 is for nobody", far.mends(1), 1);
        // The first is shut, the others begin elsewhere; six in all, the last pair of them is the one.
        NextDoor six = road("shop 0 1 1 240;shop 0 1 1 240;shop 0 1 1 240;shop 0 1 1 240;shop 0 1 1 240;shop 0 1 1 240;next 0 5;next 1 2;next 2 3;next 3 4;free 0;free 1;");
        due("5 has no way but by 0", six.mends(0), 1);
        due("2, 3 and 4 by 0", six.mends(1), 1);
        due("5 is nobody's way", six.mends(5), 0);
        // Only 0 and 1, new neighbours, lead on: 0 must be had of the one where all begin.
        NextDoor pair = road("shop 0 1 1 240;shop 0 1 1 240;shop 0 1 1 240;next 0 2;next 1 2;free 1;");
        due("0 by 1", pair.mends(2), 1);
        NextDoor zero = road("shop 0 1 1 240;shop 0 1 1 240;shop 0 1 1 240;next 0 2;next 1 2;free 2;");
        due("0 is due, too", zero.mends(2), NONE);
        // A new NEIGHBOUR must bring it in time, too: by 0, with its 30 minutes, it is too late.
        NextDoor late = road("shop 0 1 30 240;shop 0 1 1 240;shop 0 1 1 20;next 1 2;free 0;free 1;");
        due("too late", late.mends(1), NONE);
    }

    private static void buyer() {
        promise = 17;
        NextDoor x = new NextDoor();
        due("no good", x.buyer(0, 0), BAD);
        x.shop(0, 1, 1, 240);
        x.shop(0, 1, 1, 240);
        due("below", x.buyer(-1, 5), BAD);
        due("beyond", x.buyer(2, 5), BAD);
        due("below", x.buyer(0, -1), BAD);
        due("beyond", x.buyer(0, 100), BAD);
        due("far", x.buyer(LEAST, MOST), BAD);
        for (int i = 0; i < 6; i++) {
            due("one more", x.buyer(i % 2, i == 0 ? 0 : 94 + i), i);
        }
        due("a 7th", x.buyer(0, 0), FULL);
        due("BAD goes ahead", x.buyer(2, 0), BAD);
        due("six", x.count(3), 6);
        due("as told", x.digest(), hash(2, 0, 0, 6, 0, 1, 1, 240, 0, 0, 1, 1, 240, 0, 0, 999, 6, 0, 0, 1, 95, 0, 96, 1, 97, 0, 98, 1, 99));
        status(x, 7, 0, 1);
    }

    private static void leave() {
        promise = 18;
        NextDoor x = road("shop 0 4 1 240;free 0;");
        due("none", x.leave(), 0);
        x.buyer(0, 9);
        x.buyer(0, 8);
        due("taken", x.takes(0), 8);
        due("two", x.leave(), 2);
        due("none", x.count(3), 0);
        due("nothing taken", x.takes(0), 0);
        due("a new first", x.buyer(0, 7), 0);
        due("one", x.leave(), 1);
    }

    private static void takes() {
        promise = 19;
        NextDoor x = road("shop 0 4 1 240;shop 1 3 1 240;shop 2 6 1 240;next 0 1;next 1 2;free 0;");
        due("nobody", x.takes(0), 0);
        x.buyer(2, 99);
        due("0 takes", x.takes(0), 4);
        due("1 is DEAR", x.takes(1), 4);
        due("2 takes back", x.takes(2), 5);
        x.buyer(1, 8);
        due("both by 0", x.takes(0), 8);
        due("both by 1", x.takes(1), 8);
        due("one by 2", x.takes(2), 5);
        x.buyer(1, 7);
        due("above LIMIT one stays away", x.takes(1), 8);
        due("and pays nowhere", x.takes(0), 8);
        x.put(0, 12);
        due("nor with less in the PURSE", x.takes(2), 0);
        due("the other pays", x.takes(0), 4);
        due("no such shop", x.takes(3), BAD);
        due("no such shop", x.takes(-1), BAD);
        status(x, 2, 0, 0);
        readText(x, "shop 0 4 1 240;free 0;");
        due("wants what is sold no more", x.takes(0), 0);
        NextDoor y = road("shop 0 0 1 240;free 0;");
        y.buyer(0, 0);
        due("for nothing", y.takes(0), 0);
    }

    private static void asks() {
        promise = 20;
        NextDoor x = road("shop 0 4 1 240;shop 0 3 1 240;next 0 1;free 0;");
        due("of nobody: the least", x.asks(0), 0);
        x.buyer(0, 7);
        due("up to LIMIT", x.asks(0), 7);
        x.buyer(0, 14);
        due("once 14 is as good as twice 7: the least", x.asks(0), 7);
        x.buyer(1, 99);
        // 20 of the last one; 14 + 14; 7 + 7 + 7.
        due("twice 14", x.asks(0), 14);
        due("the other", x.asks(1), 20);
        due("it is not changed by that", x.price(0, 4), 4);
        x.price(0, 0);
        due("whatever it asks now", x.asks(0), 14);
        due("no such shop", x.asks(2), BAD);
        due("no such shop", x.asks(-1), BAD);
        due("no such shop", x.asks(NONE), BAD);
        status(x, 3, 0, 0);
        // Two ways to 2: who is dearer than the other is left, and of like ones the first is gone.
        NextDoor y = road("shop 0 9 1 240;shop 0 6 1 240;shop 0 1 1 240;next 0 2;next 1 2;free 0;free 1;");
        y.buyer(2, 99);
        due("as dear as the other, being the first", y.asks(0), 6);
        due("one less than the other, being the second", y.asks(1), 8);
    }

    private static void changes() {
        promise = 21;
        NextDoor x = new NextDoor();
        due("no shops: one round", x.changes(NONE), 1);
        due("no such shop", x.changes(0), BAD);
        due("another", x.changes(-2), BAD);
        due("far", x.changes(MOST), BAD);
        status(x, 3, 0, 0);
        NextDoor y = road("shop 0 4 1 240;shop 0 3 1 240;next 0 1;free 0;");
        due("nobody buys: none changes", y.changes(NONE), 1);
        due("as it is", y.changes(0), 4);
        y.buyer(0, 7);
        long before = y.digest();
        due("one changes, then none", y.changes(NONE), 2);
        due("what it asks", y.changes(0), 7);
        due("as good as 0 is the price it has", y.changes(1), 3);
        due("nothing is changed by that", y.digest(), before);
        due("nothing is changed by that", y.takes(0), 4);
        due("no such shop", y.changes(2), BAD);
        // DEAR takes one more than its PRICE here: only with 0 the buyer comes.
        NextDoor dear = road("shop 0 0 1 240;shop 1 5 1 240;next 0 1;free 0;");
        dear.buyer(1, 1);
        due("asks nothing", dear.asks(1), 0);
        due("as it is, it takes nothing", dear.takes(1), 0);
        due("two rounds", dear.changes(NONE), 2);
        due("nothing, but for what one holds", dear.changes(1), 0);
        dear.price(1, 0);
        due("it takes one", dear.takes(1), 1);
        due("it rests", dear.changes(NONE), 1);
        // Each goes just below the other, step by step, till there is no lower one.
        NextDoor z = road("shop 0 9 1 240;shop 0 6 1 240;shop 0 1 1 240;next 0 2;next 1 2;free 0;free 1;");
        z.buyer(2, 99);
        int rounds = z.changes(NONE);
        due("0 goes to 6, 1 to 5; 5, 4; .. 1, none takes more; 2 asks 20 at once", rounds, 7);
        due("0", z.changes(0), 1);
        due("1, for which 0 takes no more than 1 does", z.changes(1), 1);
        due("2", z.changes(2), 20);
        z.price(0, 20);
        z.price(1, 20);
        due("from too far above: not by then", z.changes(NONE), NONE);
        due("nor a price", z.changes(0), NONE);
        due("nor a price", z.changes(2), NONE);
        status(z, 0, 0, 0);
        z.price(0, 8);
        z.price(1, 7);
        due("just by then", z.changes(NONE), 8);
        z.price(1, 8);
        z.price(0, 9);
        due("one too many", z.changes(NONE), NONE);
    }

    private static void wanted() {
        promise = 22;
        NextDoor x = new NextDoor();
        due("nothing was bought: nothing was wanted", x.wanted(NONE), 1);
        due("nothing", x.wanted(0), 0);
        due("no more", x.wanted(1), -5);
        due("far", x.wanted(MOST), -5);
        due("below", x.wanted(-2), -10);
        due("far below", x.wanted(LEAST), -10);
        status(x, 2, 0, 0);
        // 0-1-2 in a row: it is the ROW of all sets with 2 in it.
        NextDoor y = road("shop 0 1 1 240;shop 0 1 1 240;shop 0 1 1 240;next 0 1;next 1 2;free 0;buy 0;buy 1;buy 2;");
        due("four", y.wanted(NONE), 4);
        int[] sets = {4, 5, 6, 7, -5};
        for (int i = 0; i < sets.length; i++) {
            due("by bits", y.wanted(i), sets[i]);
        }
        y.next(0, 2, true);
        due("two", y.wanted(NONE), 2);
        due("6", y.wanted(0), 6);
        due("7", y.wanted(1), 7);
        y.free(2, true);
        // 0-1-2 and 2-1-0 are alike by what is paid: the first counts, but 6 is had by 2-1 now.
        due("one", y.wanted(NONE), 1);
        due("7", y.wanted(0), 7);
        y.put(0, 2);
        due("it may not be", y.wanted(NONE), 0);
        due("none", y.wanted(0), -5);
        // What was given back was not wanted.
        NextDoor g = road("shop 0 2 1 240;shop 2 9 1 240;next 0 1;free 0;buy 0;buy 1;");
        due("one", g.wanted(NONE), 1);
        due("the second", g.wanted(0), 2);
        // As good, but not the first by SHOPS.
        NextDoor s = road("shop 0 2 1 240;shop 0 2 1 240;shop 0 1 1 240;next 0 2;next 1 2;free 0;free 1;buy 1;buy 2;");
        due("only with 1", s.wanted(NONE), 1);
        due("1 and 2", s.wanted(0), 6);
    }

    private static void images() {
        promise = 23;
        NextDoor x = road("shop 0 7 4 240;shop 0 5 2 240;next 0 1;free 0;buy 0;buy 1;");
        x.buyer(1, 44);
        x.put(0, 88);
        x.put(1, 5);
        due("below", x.image(-1), BAD);
        due("beyond", x.image(2), BAD);
        long first = x.digest();
        due("kept", x.image(0), 1);
        promise = 24;
        due("below", x.from(-1), BAD);
        due("beyond", x.from(2), BAD);
        due("none was kept", x.from(1), NO);
        x.price(0, 1);
        x.shop(1, 2, 3, 4);
        x.next(0, 1, false);
        x.free(1, true);
        x.buyer(0, 1);
        x.put(0, 1);
        x.put(1, 1);
        x.type(59, 1);
        long second = x.digest();
        promise = 23;
        due("kept", x.image(1), 1);
        promise = 24;
        due("goes on from the first", x.from(0), 1);
        due("all is so again", x.digest(), first);
        due("what it may buy, too", x.cheapest(2, 0), 12);
        x.clear();
        typeText(x, "another text, as long as there is room for it, and other buyers");
        x.leave();
        x.buyer(0, 7);
        due("goes on from the first", x.from(0), 1);
        due("all is so again", x.digest(), first);
        readText(x, "");
        x.leave();
        due("goes on from the second", x.from(1), 1);
        due("all is so again", x.digest(), second);
        x.price(0, 20);
        due("an image is not what goes on from it", x.from(1), 1);
        due("all is so again", x.digest(), second);
        promise = 23;
        x.from(0);
        due("kept anew", x.image(1), 1);
        x.clear();
        x.from(1);
        due("the newest is kept", x.digest(), first);
        status(x, 4, 1, 0);
    }

    private static void status() {
        promise = 25;
        NextDoor x = new NextDoor();
        status(x, 0, 0, 0);
        due("another", x.status(3), -1);
        due("another", x.status(-1), -1);
        due("far", x.status(LEAST), -1);
        status(x, 3, 0, 0);
        x.image(0);
        x.row(0, -1);
        x.wanted(-2);
        x.worth(0, 0);
        status(x, 6, 0, 0);
        x.shop(0, 1, 1, 1);
        x.worth(1, 0);
        x.free(0, false);
        status(x, 6, 2, 0);
        for (int i = 0; i < 6; i++) {
            x.shop(0, 1, 1, 1);
        }
        status(x, 6, 2, 1);
        x.from(0);
        status(x, 6, 2, 1);
        // These are answers, none is refused.
        x.shop(0, 1, 1, 1);
        x.cheapest(1, 0);
        x.row(1, 0);
        x.soonest(1);
        x.mends(0);
        x.wanted(7);
        x.type('x', 1);
        x.read();
        status(x, 6, 2, 1);
    }

    private static void count() {
        promise = 26;
        NextDoor x = road("shop 0 7 4 240;shop 0 5 2 240;shop 0 5 2 240;next 0 1;free 0;buy 0;buy 1;");
        x.buyer(2, 2);
        due("shops", x.count(0), 3);
        due("of the errand", x.count(1), 2);
        due("bytes", x.count(2), 73);
        due("buyers", x.count(3), 1);
        due("another", x.count(4), BAD);
        due("another", x.count(-1), BAD);
        due("far", x.count(MOST), BAD);
        status(x, 3, 0, 0);
    }

    private static void digest() {
        promise = 27;
        NextDoor x = road("shop 1 7 4 240;shop 2 5 3 99;next 0 1;free 1;buy 1;buy 0;buy 1;");
        x.clear();
        x.type(0x3b20ffL, 3);
        x.put(0, 77);
        x.put(1, 2);
        x.buyer(1, 44);
        x.buyer(0, 3);
        long due = hash(2, 3, 3, 2, 1, 7, 4, 240, 2, 2, 5, 3, 99, 1, 2, 77, 2, 1, 0, 1, 0x3b, 0x20, 0xff, 1, 44, 0, 3);
        due("all in its order", x.digest(), due);
        x.image(0);
        x.status(9);
        due("images and status are not in it", x.digest(), due);
    }
}
