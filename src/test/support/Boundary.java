import java.lang.reflect.InvocationTargetException;
import java.lang.reflect.Method;
import java.lang.reflect.Modifier;
import java.util.ArrayList;
import java.util.List;
import java.util.TreeMap;

/**
 * What the tests of boundary cases share. A test is a static method whose name begins with its promise
 * (promise2_shop_..); each call that it tries is made on an object of its own, beside which a twin stands
 * that has gone through the same calls but for that one.
 */
abstract class Boundary {
    static final int NONE = -1, BAD = -2, NO = -3, FULL = -4;
    static final int LEAST = Integer.MIN_VALUE, MOST = Integer.MAX_VALUE;

    private static final int MOST_SHOPS = 6;

    private static String test = "";
    private static int asked = 0;
    private static int wrong = 0;

    interface Call {
        long on(NextDoor x);
    }

    interface State {
        void on(NextDoor x);
    }

    /** Runs every test of a class, and fails if one of these promises has none. */
    static void runAll(Class<?> tests, int firstPromise, int lastPromise) {
        TreeMap<String, Method> byName = new TreeMap<>();
        boolean[] has = new boolean[lastPromise + 1];
        for (Method m : tests.getDeclaredMethods()) {
            String name = m.getName();
            if (Modifier.isStatic(m.getModifiers()) && name.matches("promise\\d+_\\w+_\\w+") && m.getParameterCount() == 0) {
                byName.put(name, m);
                has[Integer.parseInt(name.substring(7, name.indexOf('_')))] = true;
            }
        }
        for (Method m : byName.values()) {
            run(m);
        }
        test = tests.getName();
        for (int promise = firstPromise; promise <= lastPromise; promise++) {
            due("promise " + promise + " has a test", has[promise] ? 1 : 0, 1);
        }
        System.out.println(byName.size() + " tests, " + asked + " answers, " + wrong + " of them not as due");
        if (wrong != 0) {
            System.exit(1);
        }
    }

    private static void run(Method m) {
        test = m.getName();
        int before = asked;
        try {
            m.setAccessible(true);
            m.invoke(null);
        } catch (IllegalAccessException | InvocationTargetException thrown) {
            wrong++;
            System.out.println(test + ": threw " + thrown.getCause());
        }
        due("the test asks something", asked > before ? 1 : 0, 1);
    }

    static void due(String what, long got, long want) {
        asked++;
        if (got != want) {
            wrong++;
            System.out.println(test + ": " + what + " answered " + got + ", due is " + want);
        }
    }

    /** The call is refused: its answer, that STATUS counts it by that reason, and that nothing else has changed. */
    static void refused(State state, int reason, long answer, Call call) {
        tried(state, reason, answer, call);
    }

    static void refused(State state, int reason, Call call) {
        tried(state, reason, reason, call);
    }

    /** Refused so in whatever state the object is: BAD goes ahead of all else. */
    static void badEverywhere(long answer, Call call) {
        refused(Boundary::empty, BAD, answer, call);
        refused(Boundary::busy, BAD, answer, call);
        refused(Boundary::full, BAD, answer, call);
    }

    static void badEverywhere(Call call) {
        badEverywhere(BAD, call);
    }

    /** The call answers: STATUS does not count it, and nothing has changed. */
    static void answered(State state, long answer, Call call) {
        tried(state, 0, answer, call);
    }

    private static void tried(State state, int reason, long answer, Call call) {
        NextDoor x = made(state);
        NextDoor twin = made(state);
        due("the call", call.on(x), answer);
        same(x, twin, reason);
    }

    /** The call changes the state, and leaves just what those other calls leave; STATUS does not count it. */
    static void leaves(State state, long answer, Call call, State others) {
        NextDoor x = made(state);
        NextDoor twin = made(others);
        due("the call", call.on(x), answer);
        same(x, twin, 0);
    }

    static NextDoor made(State state) {
        NextDoor x = new NextDoor();
        state.on(x);
        return x;
    }

    private static void same(NextDoor x, NextDoor twin, int reason) {
        for (int what = 0; what < 3; what++) {
            int more = reason == BAD - what ? 1 : 0;
            due("STATUS " + what + " behind it", x.status(what), twin.status(what) + more);
        }
        List<Long> seen = allSeen(x);
        List<Long> due = allSeen(twin);
        for (int i = 0; i < due.size(); i++) {
            due("what is seen behind it, number " + i, i < seen.size() ? seen.get(i) : LEAST, due.get(i));
        }
    }

    /** The digest has all of the state but IMAGES: these are gone on from; the rest is for what is kept beside it. */
    private static List<Long> allSeen(NextDoor x) {
        List<Long> seen = new ArrayList<>();
        seen.add(x.digest());
        for (int what = 0; what < 4; what++) {
            seen.add((long) x.count(what));
            seen.add((long) x.errand(what));
        }
        int shops = Math.min(x.count(0), MOST_SHOPS);
        for (int shop = 0; shop < shops; shop++) {
            seen.add((long) x.cheapest(1 << shop, 0));
            seen.add((long) x.row(1 << shop, 0));
            seen.add((long) x.soonest(1 << shop));
            seen.add((long) x.shutOut(shop));
            seen.add((long) x.mends(shop));
            seen.add((long) x.takes(shop));
            seen.add((long) x.asks(shop));
        }
        seen.add((long) x.changes(NONE));
        seen.add((long) x.wanted(NONE));
        seen.add(x.digest());
        for (int i = 0; i < 2; i++) {
            seen.add((long) x.from(i));
            seen.add(x.digest());
        }
        return seen;
    }

    static void empty(NextDoor x) {
        due("an empty street", x.count(0), 0);
    }

    /** Something of everything; IMAGE 1 alone is kept, and is unlike what there is now. */
    static void busy(NextDoor x) {
        read(x, "shop 0 7 4 240;shop 1 5 2 200;shop 2 9 3 100;next 0 1;next 1 2;free 0;buy 0;buy 1;");
        x.image(1);
        x.put(0, 60);
        x.put(1, 4);
        x.buyer(2, 50);
        x.buyer(1, 13);
        x.clear();
        type(x, "ab;");
    }

    /** All that there can be: 6 SHOPS, 12 buys, 200 bytes, 6 BUYERS, two IMAGES. */
    static void full(NextDoor x) {
        x.shop(0, 3, 3, 33);
        x.image(0);
        busy(x);
        StringBuilder text = new StringBuilder();
        for (int i = 0; i < 6; i++) {
            text.append("shop" + i + " " + (i + 4) + " 1 60;");
        }
        text.append("free0;next0 1;next1 2;next2 3;next3 4;next4 5;");
        for (int i = 0; i < 12; i++) {
            text.append("buy" + i % 6 + ";");
        }
        read(x, text.toString());
        for (int i = text.length(); i < 200; i++) {
            x.type(' ', 1);
        }
        x.leave();
        for (int i = 0; i < 6; i++) {
            x.buyer(i, 17 * i);
        }
        due("six SHOPS", x.count(0), 6);
        due("twelve buys", x.count(1), 12);
        due("200 bytes", x.count(2), 200);
        due("six BUYERS", x.count(3), 6);
    }

    static void type(NextDoor x, String text) {
        int at = 0;
        while (at < text.length()) {
            int n = Math.min(8, text.length() - at);
            long v = 0;
            for (int i = 0; i < n; i++) {
                v = v << 8 | text.charAt(at + i) & 255;
            }
            due("bytes typed", x.type(v, n), at + n);
            at += n;
        }
    }

    /** The text in place of what THE ROAD had, and read. */
    static int read(NextDoor x, String text) {
        x.clear();
        type(x, text);
        return x.read();
    }

    /** A street that is read from a text, which is cleared behind it. */
    static State road(String text) {
        return x -> {
            due("the road " + text + " is read", read(x, text) >= 0 ? 1 : 0, 1);
            x.clear();
        };
    }

    static State and(State first, State then) {
        return x -> {
            first.on(x);
            then.on(x);
        };
    }

    static long hash(long... values) {
        return on(647, values);
    }

    /** The hash goes on with these. */
    static long on(long begun, long... values) {
        long h = begun;
        for (long v : values) {
            h = 31 * h + v;
        }
        return h;
    }
}
