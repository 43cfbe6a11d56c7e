import java.util.ArrayList;
import java.util.Arrays;
import java.util.List;
import java.util.Random;
import java.util.TreeSet;

/**
 * Random runs of calls, each answer held against that of a model which looks at every row of SHOPS
 * there is, without any of the short cuts of the class. The seeds are fixed: every run is the same.
 */
public final class AgainstModel {
    private static final int RUNS = 1500;
    private static final int STREETS = 250;
    private static final int CALLS = 90;
    private static final String[] WORDS = {"shop", "next", "free", "buy"};

    private static int wrong = 0;

    public static void main(String[] args) {
        long answers = 0;
        for (int run = 0; run < RUNS && wrong < 20; run++) {
            answers += new Run(run).go();
        }
        for (int run = RUNS; run < RUNS + STREETS && wrong < 20; run++) {
            answers += new Run(run).askAll();
        }
        System.out.println(wrong == 0 ? "all " + answers + " answers are those of the model" : wrong + " answers differ");
        if (wrong != 0) {
            System.exit(1);
        }
    }

    /** One run: an object, a model beside it, and what was called so far. */
    private static final class Run {
        final int seed;
        final Random random;
        final NextDoor x = new NextDoor();
        final Model m = new Model();
        final StringBuilder told = new StringBuilder();
        boolean steady = false;

        Run(int seed) {
            this.seed = seed;
            this.random = new Random(seed);
        }

        int go() {
            int most = 2 + random.nextInt(5);
            int calls = 0;
            if (random.nextBoolean()) {
                calls += begin(most);
            }
            steady = random.nextBoolean();
            for (; calls < CALLS; calls++) {
                call();
            }
            end();
            return calls;
        }

        void end() {
            same("digest()", x.digest(), m.digest());
            for (int what = 0; what < 3; what++) {
                same("status(" + what + ")", x.status(what), m.status(what));
            }
        }

        /** Everything that there is to ask of one street, read from a ROAD with an ERRAND that is somebody's ROW. */
        int askAll() {
            int most = 2 + random.nextInt(5);
            String road = thickRoad(most);
            typeText(road);
            read();
            String bought = someRow();
            if (road.length() + bought.length() <= 200) {
                typeText(bought);
                read();
            }
            if (random.nextInt(3) == 0) {
                put();
            }
            for (int i = random.nextInt(7); i > 0; i--) {
                buyer(random.nextInt(most), 10 + random.nextInt(90));
            }
            for (int wants = 0; wants < 1 << most; wants++) {
                cheapest(wants, wants % 3);
                row(wants, random.nextInt(3));
                soonest(wants);
            }
            for (int shop = 0; shop < most; shop++) {
                worth(random.nextInt(1 << most), shop);
                worth(1 << random.nextInt(most), shop);
                shutOut(shop);
                mends(shop);
                takes(shop);
                asks(shop);
                errand(shop % 4);
            }
            changes(-1);
            changes(random.nextInt(most));
            for (int i = -1; i < 9; i++) {
                wanted(i);
            }
            end();
            return 3 * (1 << most) + 7 * most + 15;
        }

        String thickRoad(int most) {
            StringBuilder text = new StringBuilder();
            int dearest = 1 + random.nextInt(20);
            for (int i = 0; i < most; i++) {
                text.append("shop" + random.nextInt(6) + " " + random.nextInt(dearest + 1) + " " + (1 + random.nextInt(9)) + " " + (20 + random.nextInt(60)) + ";");
            }
            text.append("free" + random.nextInt(most) + ";");
            int dense = 30 + random.nextInt(71);
            for (int a = 0; a < most; a++) {
                for (int b = a + 1; b < most && text.length() < 165; b++) {
                    if (random.nextInt(100) < dense) {
                        text.append("next" + b + " " + a + ";");
                    }
                }
            }
            return text.toString();
        }

        String someRow() {
            StringBuilder text = new StringBuilder();
            Gone best = Model.best(m.mayBe(), random.nextInt(1 << m.shops.size()), false);
            for (int shop : best == null ? new ArrayList<Integer>() : best.row) {
                text.append("buy" + shop + ";");
            }
            return text.toString();
        }

        /** A street in which something may be bought, else most answers would be NONE. */
        int begin(int most) {
            for (int i = 0; i < most; i++) {
                shop(random.nextInt(6), random.nextInt(21), 1 + random.nextInt(12), 20 + random.nextInt(100));
            }
            int dense = 30 + random.nextInt(71);
            for (int a = 0; a < most; a++) {
                for (int b = a + 1; b < most; b++) {
                    if (random.nextInt(100) < dense) {
                        next(a, b, true);
                    }
                }
            }
            free(random.nextInt(most), true);
            for (int i = random.nextInt(6); i > 0; i--) {
                buyer(random.nextInt(most), 20 + random.nextInt(80));
            }
            return 30;
        }

        void same(String call, long got, long due) {
            told.append(call).append(' ');
            if (got != due) {
                wrong++;
                System.out.println("seed " + seed + ": " + told + "answered " + got + ", due is " + due);
            }
        }

        int oneOf(int... values) {
            return values[random.nextInt(values.length)];
        }

        boolean seldom() {
            return random.nextInt(25) == 0;
        }

        int anyShop() {
            return seldom() ? oneOf(-2, -1, 6, 7, 32, 64, Integer.MIN_VALUE, Integer.MAX_VALUE) : random.nextInt(Math.max(1, m.shops.size() + (seldom() ? 1 : 0)));
        }

        int anyWants() {
            return seldom() ? oneOf(-1, 64, 1 << m.shops.size(), Integer.MIN_VALUE, Integer.MAX_VALUE) : random.nextInt(1 << m.shops.size());
        }

        int within(int least, int most) {
            return seldom() ? oneOf(least - 1, most + 1, Integer.MIN_VALUE, Integer.MAX_VALUE) : least + random.nextInt(most - least + 1);
        }

        void shop(int kind, int price, int minutes, int shut) {
            same("shop(" + kind + "," + price + "," + minutes + "," + shut + ")", x.shop(kind, price, minutes, shut), m.shop(kind, price, minutes, shut));
        }

        void next(int a, int b, boolean is) {
            same("next(" + a + "," + b + "," + is + ")", x.next(a, b, is), m.next(a, b, is));
        }

        void free(int shop, boolean is) {
            same("free(" + shop + "," + is + ")", x.free(shop, is), m.free(shop, is));
        }

        void buyer(int want, int limit) {
            same("buyer(" + want + "," + limit + ")", x.buyer(want, limit), m.buyer(want, limit));
        }

        void call() {
            switch (random.nextInt(30)) {
                case 0: shop(within(0, 5), within(0, 20), within(1, 30), within(0, 240)); break;
                case 1: case 2: next(anyShop(), anyShop(), random.nextInt(4) > 0); break;
                case 3: free(anyShop(), random.nextInt(3) > 0); break;
                case 4: put(); break;
                case 5: price(anyShop(), within(0, 20)); break;
                case 6: if (!steady) road(); break;
                case 7: if (seldom()) same("clear()", x.clear(), m.clear()); break;
                case 8: typeBytes(random.nextLong(), within(1, 8)); break;
                case 9: if (!steady && (!m.text.isEmpty() || seldom())) read(); break;
                case 10: case 11: errand(within(0, 3)); break;
                case 12: case 13: cheapest(anyWants(), within(0, 2)); break;
                case 14: case 15: row(anyWants(), within(0, 6)); break;
                case 16: soonest(anyWants()); break;
                case 17: worth(anyWants(), anyShop()); break;
                case 18: shutOut(anyShop()); break;
                case 19: mends(anyShop()); break;
                case 20: buyer(anyShop(), within(0, 99)); break;
                case 21: if (random.nextInt(4) == 0) same("leave()", x.leave(), m.leave()); break;
                case 22: takes(anyShop()); break;
                case 23: if (random.nextInt(3) == 0) asks(anyShop()); break;
                case 24: if (random.nextInt(12) == 0) changes(random.nextBoolean() ? -1 : anyShop()); break;
                case 25: wanted(within(-1, 4)); break;
                case 26: image(within(0, 1)); break;
                case 27: from(within(0, 1)); break;
                case 28: int what = within(0, 2); same("status(" + what + ")", x.status(what), m.status(what)); break;
                default: int of = within(0, 3); same("count(" + of + ")", x.count(of), m.count(of)); same("digest()", x.digest(), m.digest()); break;
            }
        }

        void put() {
            int what = within(0, 1);
            int v = random.nextInt(3) == 0 ? within(0, 999) : what == 0 ? within(0, 80) : within(1, 6);
            same("put(" + what + "," + v + ")", x.put(what, v), m.put(what, v));
        }

        void price(int shop, int v) { same("price(" + shop + "," + v + ")", x.price(shop, v), m.price(shop, v)); }
        void typeBytes(long v, int n) { same("type(" + v + "," + n + ")", x.type(v, n), m.type(v, n)); }
        void read() { same("read()", x.read(), m.read()); }
        void errand(int what) { same("errand(" + what + ")", x.errand(what), m.errand(what)); }
        void cheapest(int wants, int what) { same("cheapest(" + wants + "," + what + ")", x.cheapest(wants, what), m.cheapest(wants, what)); }
        void row(int wants, int i) { same("row(" + wants + "," + i + ")", x.row(wants, i), m.row(wants, i)); }
        void soonest(int wants) { same("soonest(" + wants + ")", x.soonest(wants), m.soonest(wants)); }
        void worth(int wants, int shop) { same("worth(" + wants + "," + shop + ")", x.worth(wants, shop), m.worth(wants, shop)); }
        void shutOut(int shop) { same("shutOut(" + shop + ")", x.shutOut(shop), m.shutOut(shop)); }
        void mends(int shop) { same("mends(" + shop + ")", x.mends(shop), m.mends(shop)); }
        void takes(int shop) { same("takes(" + shop + ")", x.takes(shop), m.takes(shop)); }
        void asks(int shop) { same("asks(" + shop + ")", x.asks(shop), m.asks(shop)); }
        void changes(int shop) { same("changes(" + shop + ")", x.changes(shop), m.changes(shop)); }
        void wanted(int i) { same("wanted(" + i + ")", x.wanted(i), m.wanted(i)); }
        void image(int i) { same("image(" + i + ")", x.image(i), m.image(i)); }
        void from(int i) { same("from(" + i + ")", x.from(i), m.from(i)); }

        /** A ROAD that is right in most of its places, typed, read, and asked for its ERRAND. */
        void road() {
            same("clear()", x.clear(), m.clear());
            StringBuilder text = new StringBuilder();
            int many = 1 + random.nextInt(5);
            for (int i = 0; i < many; i++) {
                text.append("shop " + within5() + " " + within(0, 20) + " " + (1 + random.nextInt(9)) + " " + (40 + random.nextInt(200)) + ";");
            }
            for (int i = random.nextInt(3 * many); i > 0; i--) {
                text.append("next " + random.nextInt(many) + " " + random.nextInt(many) + ";");
            }
            for (int i = random.nextInt(many + 1); i > 0; i--) {
                text.append("free " + random.nextInt(many) + ";");
            }
            int first = random.nextInt(many);
            if (random.nextBoolean()) {
                text.append("free " + first + ";");
            }
            for (int i = random.nextInt(5); i > 0; i--) {
                text.append("buy " + (i == 4 ? first : random.nextInt(many)) + ";");
            }
            String road = repaired(text.toString());
            if (random.nextInt(3) == 0) {
                road = spoiled(road);
            }
            typeText(road);
            read();
            for (int what = 0; what < 4; what++) {
                errand(what);
            }
            wanted(-1);
            wanted(0);
        }

        int within5() {
            return seldom() ? 6 : random.nextInt(6);
        }

        /** Without the neighbours that are told twice, or of themselves: else hardly a ROAD would be read. */
        String repaired(String road) {
            if (random.nextInt(6) == 0) {
                return road;
            }
            TreeSet<String> seen = new TreeSet<>();
            StringBuilder kept = new StringBuilder();
            for (String item : road.split(";")) {
                String[] part = item.split(" ");
                boolean twice = part[0].equals("next") && (part[1].equals(part[2]) || !seen.add(part[1].compareTo(part[2]) < 0 ? part[1] + part[2] : part[2] + part[1]));
                if (!twice) {
                    kept.append(item).append(';');
                }
            }
            return kept.toString();
        }

        String spoiled(String road) {
            StringBuilder text = new StringBuilder(road);
            int place = random.nextInt(text.length() + 1);
            String bit = new String[] {" ", ";", "0", "1", "99", "x", "A", "shop", "buy 0;", "0001", "   ", "\u00e9", "\u0000", "-"}[random.nextInt(14)];
            switch (random.nextInt(4)) {
                case 0: text.insert(place, bit); break;
                case 1: text.setLength(place); break;
                case 2: if (place < text.length()) text.deleteCharAt(place); break;
                default: if (place < text.length()) text.setCharAt(place, bit.charAt(0)); break;
            }
            return text.toString();
        }

        void typeText(String text) {
            int at = 0;
            while (at < text.length()) {
                int n = Math.min(1 + random.nextInt(8), text.length() - at);
                long v = random.nextLong();
                for (int i = 0; i < n; i++) {
                    v = v << 8 | text.charAt(at + i) & 255;
                }
                typeBytes(v, n);
                at += n;
            }
        }
    }

    /** A row of SHOPS as far as it may be. */
    private static final class Gone {
        final List<Integer> row = new ArrayList<>();
        final List<Integer> pays = new ArrayList<>();
        int why = 0;
        int paid = 0;
        int minute = 0;
        TreeSet<Integer> held = new TreeSet<>();

        int heldBits() {
            int bits = 0;
            for (int good : held) {
                bits += 1 << good;
            }
            return bits;
        }
    }

    /** Where the parse stopped. */
    private static final class Fault extends RuntimeException {
        final int place;

        Fault(int place) {
            super("fault", null, false, false);
            this.place = place;
        }
    }

    private static final class Model {
        static final List<List<Integer>> ROWS = new ArrayList<>();

        List<int[]> shops = new ArrayList<>();
        TreeSet<Integer> pairs = new TreeSet<>();
        TreeSet<Integer> free = new TreeSet<>();
        int purse = 999;
        int arms = 6;
        List<Integer> errand = new ArrayList<>();
        List<Integer> text = new ArrayList<>();
        List<int[]> buyers = new ArrayList<>();
        int nobodyAt = -1;
        final Model[] images = new Model[2];
        final int[] status = new int[3];

        static {
            for (int length = 0; length <= 6; length++) {
                addRows(new ArrayList<>(), length);
            }
        }

        /** By length, and by SHOPS in their order among those of one length. */
        static void addRows(List<Integer> begun, int length) {
            if (begun.size() == length) {
                ROWS.add(new ArrayList<>(begun));
                return;
            }
            for (int shop = 0; shop < 6; shop++) {
                if (!begun.contains(shop)) {
                    begun.add(shop);
                    addRows(begun, length);
                    begun.remove(begun.size() - 1);
                }
            }
        }

        int bad() { return bad(-2); }
        int bad(int answer) { status[0]++; return answer; }
        int no(int answer) { status[1]++; return answer; }
        int full() { status[2]++; return -4; }
        boolean is(int shop) { return shop >= 0 && shop < shops.size(); }
        boolean sets(int wants) { return wants >= 0 && wants < 1 << shops.size(); }
        static int pair(int a, int b) { return Math.min(a, b) * 10 + Math.max(a, b); }
        static boolean out(int v, int least, int most) { return v < least || v > most; }

        int shop(int kind, int price, int minutes, int shut) {
            if (out(kind, 0, 5) || out(price, 0, 20) || out(minutes, 1, 30) || out(shut, 0, 240)) return bad();
            if (shops.size() == 6) return full();
            shops.add(new int[] {kind, price, minutes, shut});
            return shops.size() - 1;
        }

        int next(int a, int b, boolean is) {
            if (!is(a) || !is(b) || a == b) return bad();
            boolean changed = is ? pairs.add(pair(a, b)) : pairs.remove(pair(a, b));
            return changed ? 1 : no(-3);
        }

        int free(int shop, boolean is) {
            if (!is(shop)) return bad();
            boolean changed = is ? free.add(shop) : free.remove(shop);
            return changed ? 1 : no(-3);
        }

        int put(int what, int v) {
            int was;
            if (what == 0 && !out(v, 0, 999)) {
                was = purse;
                purse = v;
            } else if (what == 1 && !out(v, 1, 6)) {
                was = arms;
                arms = v;
            } else {
                return bad();
            }
            return was;
        }

        int price(int shop, int v) {
            if (!is(shop) || out(v, 0, 20)) return bad();
            int was = shops.get(shop)[1];
            shops.get(shop)[1] = v;
            return was;
        }

        int type(long v, int n) {
            if (out(n, 1, 8)) return bad();
            if (text.size() + n > 200) return full();
            for (int i = 8 - n; i < 8; i++) {
                text.add((int) (v >> 8 * (7 - i) & 0xff));
            }
            return text.size();
        }

        int clear() {
            int had = text.size();
            text.clear();
            return had;
        }

        int read() {
            Model road = new Model();
            int items = 0;
            try {
                List<int[]> tokens = tokens();
                int at = 0;
                while (at < tokens.size()) {
                    at = item(road, tokens, at);
                    items++;
                }
            } catch (Fault fault) {
                return -10 - fault.place;
            }
            shops = road.shops;
            pairs = road.pairs;
            free = road.free;
            errand = road.errand;
            return items;
        }

        String word(int[] token) {
            StringBuilder word = new StringBuilder();
            for (int i = token[0]; i < token[1]; i++) {
                word.append((char) (int) text.get(i));
            }
            return word.toString();
        }

        /** Each from, up to; what can not be a TOKEN is one byte. */
        List<int[]> tokens() {
            List<int[]> found = new ArrayList<>();
            int at = 0;
            while (at < text.size()) {
                int from = at;
                int sign = text.get(at);
                boolean letter = sign >= 97 && sign <= 122;
                boolean figure = sign >= 48 && sign <= 57;
                at++;
                while ((letter || figure) && at < text.size() && text.get(at) >= (letter ? 97 : 48) && text.get(at) <= (letter ? 122 : 57)) {
                    at++;
                }
                if (sign != 32) found.add(new int[] {from, at});
            }
            return found;
        }

        int[] token(List<int[]> tokens, int at) {
            if (at >= tokens.size()) throw new Fault(text.size());
            return tokens.get(at);
        }

        int number(List<int[]> tokens, int at, int least, int most) {
            int[] token = token(tokens, at);
            String word = word(token);
            if (!word.matches("[0-9]{1,3}") || out(Integer.parseInt(word), least, most)) throw new Fault(token[0]);
            return Integer.parseInt(word);
        }

        int item(Model road, List<int[]> tokens, int at) {
            int[] first = token(tokens, at);
            String word = word(first);
            int last = road.shops.size() - 1;
            int end;
            if (word.equals(WORDS[0]) && road.shops.size() < 6) {
                road.shops.add(new int[] {number(tokens, at + 1, 0, 5), number(tokens, at + 2, 0, 20), number(tokens, at + 3, 1, 30), number(tokens, at + 4, 0, 240)});
                end = at + 5;
            } else if (word.equals(WORDS[1])) {
                int a = number(tokens, at + 1, 0, last);
                int b = number(tokens, at + 2, 0, last);
                if (a == b || !road.pairs.add(pair(a, b))) throw new Fault(tokens.get(at + 2)[0]);
                end = at + 3;
            } else if (word.equals(WORDS[2])) {
                road.free.add(number(tokens, at + 1, 0, last));
                end = at + 2;
            } else if (word.equals(WORDS[3]) && road.errand.size() < 12) {
                road.errand.add(number(tokens, at + 1, 0, last));
                end = at + 2;
            } else {
                throw new Fault(first[0]);
            }
            int[] stop = token(tokens, end);
            if (!word(stop).equals(";")) throw new Fault(stop[0]);
            return end + 1;
        }

        Gone go(List<Integer> row) {
            Gone g = new Gone();
            for (int shop : row) {
                int[] s = shops.get(shop);
                boolean dear = s[0] == 1 || s[0] == 3 || s[0] == 5;
                boolean back = s[0] == 2 || s[0] == 4;
                int ahead = (shop + shops.size() - 1) % shops.size();
                boolean gives = back && g.held.contains(ahead);
                int pay = s[1];
                if (dear) pay += g.held.size();
                if (gives) pay = Math.max(0, pay - shops.get(ahead)[1] / 2);
                if (s[0] == 4 && g.held.isEmpty()) pay = 0;
                int then = g.minute + s[2] * (s[0] == 3 ? 2 : 1);
                boolean leads = g.row.isEmpty() ? free.contains(shop) : pairs.contains(pair(g.row.get(g.row.size() - 1), shop));
                if (!leads) g.why = 1;
                else if (g.row.contains(shop)) g.why = 2;
                else if (s[0] == 5 && g.held.size() < 2 || shop == nobodyAt) g.why = 3;
                else if (then > s[3]) g.why = 4;
                else if (g.held.size() + (gives ? 0 : 1) > arms) g.why = 5;
                else if (g.paid + pay > purse) g.why = 6;
                if (g.why != 0) return g;
                if (gives) g.held.remove(ahead);
                g.held.add(shop);
                g.row.add(shop);
                g.pays.add(pay);
                g.paid += pay;
                g.minute = then;
            }
            return g;
        }

        int errand(int what) {
            if (out(what, 0, 3)) return bad();
            Gone g = go(errand);
            if (what == 0) return g.why == 0 ? -1 : 10 * g.row.size() + g.why;
            return what == 1 ? g.paid : what == 2 ? g.minute : g.heldBits();
        }

        List<Gone> mayBe() {
            List<Gone> all = new ArrayList<>();
            for (List<Integer> row : ROWS) {
                boolean known = true;
                for (int shop : row) {
                    known &= shop < shops.size();
                }
                Gone g = known ? go(row) : null;
                if (known && g.why == 0) all.add(g);
            }
            return all;
        }

        /** ROWS stand in the order that counts among those of one price: the first least one is ROW. */
        static Gone best(List<Gone> all, int wants, boolean soonest) {
            Gone best = null;
            for (Gone g : all) {
                boolean holds = (g.heldBits() & wants) == wants;
                if (holds && (best == null || (soonest ? g.minute < best.minute : g.paid < best.paid))) best = g;
            }
            return best;
        }

        int cheapest(int wants, int what) {
            if (!sets(wants) || out(what, 0, 2)) return bad();
            Gone g = best(mayBe(), wants, false);
            if (g == null) return -1;
            return what == 0 ? g.paid : what == 1 ? g.row.size() : g.minute;
        }

        int row(int wants, int i) {
            if (!sets(wants) || i < 0) return bad(-10);
            Gone g = best(mayBe(), wants, false);
            return g == null || i >= g.row.size() ? -5 : g.row.get(i);
        }

        int soonest(int wants) {
            if (!sets(wants)) return bad();
            Gone g = best(mayBe(), wants, true);
            return g == null ? -1 : g.minute;
        }

        int worth(int wants, int shop) {
            if (!sets(wants) || !is(shop) || free.contains(shop)) return bad(-1000);
            Gone now = best(mayBe(), wants, false);
            free.add(shop);
            Gone then = best(mayBe(), wants, false);
            free.remove(shop);
            return now == null || then == null ? no(-2000) : now.paid - then.paid;
        }

        int had() {
            int goods = 0;
            for (Gone g : mayBe()) {
                goods |= g.heldBits();
            }
            return goods;
        }

        int hadWithout(int shop) {
            nobodyAt = shop;
            int goods = had();
            nobodyAt = -1;
            return goods;
        }

        int shutOut(int shop) {
            if (!is(shop)) return bad();
            return had() & ~hadWithout(shop);
        }

        int mends(int shop) {
            if (!is(shop)) return bad();
            int due = had() & ~(1 << shop);
            if ((due & ~hadWithout(shop)) == 0) return 0;
            int best = 3;
            List<Integer> news = new ArrayList<>();
            for (int a = 0; a < shops.size(); a++) {
                for (int b = a + 1; b < shops.size(); b++) {
                    if (!pairs.contains(pair(a, b))) news.add(pair(a, b));
                }
            }
            for (int one : news) {
                for (int two : news) {
                    if ((one == two ? 1 : 2) < best) {
                        pairs.add(one);
                        pairs.add(two);
                        if ((due & ~hadWithout(shop)) == 0) best = one == two ? 1 : 2;
                        pairs.remove(one);
                        pairs.remove(two);
                    }
                }
            }
            return best == 3 ? -1 : best;
        }

        int buyer(int want, int limit) {
            if (!is(want) || out(limit, 0, 99)) return bad();
            if (buyers.size() == 6) return full();
            buyers.add(new int[] {want, limit});
            return buyers.size() - 1;
        }

        int leave() {
            int were = buyers.size();
            buyers.clear();
            return were;
        }

        int taken(int shop) {
            List<Gone> all = mayBe();
            int sum = 0;
            for (int[] b : buyers) {
                Gone g = best(all, 1 << b[0], false);
                if (g != null && g.paid <= b[1] && g.row.contains(shop)) sum += g.pays.get(g.row.indexOf(shop));
            }
            return sum;
        }

        int takes(int shop) {
            return is(shop) ? taken(shop) : bad();
        }

        int[] takenByPrice(int shop) {
            int told = shops.get(shop)[1];
            int[] taken = new int[21];
            for (int v = 0; v <= 20; v++) {
                shops.get(shop)[1] = v;
                taken[v] = taken(shop);
            }
            shops.get(shop)[1] = told;
            return taken;
        }

        static int asked(int[] taken) {
            int most = Arrays.stream(taken).max().getAsInt();
            int v = 0;
            while (taken[v] != most) {
                v++;
            }
            return v;
        }

        int asks(int shop) {
            return is(shop) ? asked(takenByPrice(shop)) : bad();
        }

        int changes(int shop) {
            if (shop != -1 && !is(shop)) return bad();
            List<int[]> told = shops;
            shops = new ArrayList<>();
            for (int[] s : told) {
                shops.add(s.clone());
            }
            int rest = -1;
            for (int round = 1; round <= 8 && rest == -1; round++) {
                int changed = 0;
                for (int i = 0; i < shops.size(); i++) {
                    int[] taken = takenByPrice(i);
                    int v = asked(taken);
                    if (taken[v] > taken[shops.get(i)[1]]) {
                        shops.get(i)[1] = v;
                        changed++;
                    }
                }
                if (changed == 0) rest = round;
            }
            int answer = rest == -1 ? -1 : shop == -1 ? rest : shops.get(shop)[1];
            shops = told;
            return answer;
        }

        int wanted(int i) {
            if (i < -1) return bad(-10);
            List<Gone> all = mayBe();
            List<Integer> sets = new ArrayList<>();
            for (int wants = 0; wants < 1 << shops.size(); wants++) {
                Gone g = best(all, wants, false);
                if (g != null && g.row.equals(errand)) sets.add(wants);
            }
            if (i == -1) return sets.size();
            return i < sets.size() ? sets.get(i) : -5;
        }

        void takeFrom(Model o) {
            shops = new ArrayList<>();
            for (int[] s : o.shops) {
                shops.add(s.clone());
            }
            pairs = new TreeSet<>(o.pairs);
            free = new TreeSet<>(o.free);
            purse = o.purse;
            arms = o.arms;
            errand = new ArrayList<>(o.errand);
            text = new ArrayList<>(o.text);
            buyers = new ArrayList<>(o.buyers);
        }

        int image(int i) {
            if (out(i, 0, 1)) return bad();
            images[i] = new Model();
            images[i].takeFrom(this);
            return 1;
        }

        int from(int i) {
            if (out(i, 0, 1)) return bad();
            if (images[i] == null) return no(-3);
            takeFrom(images[i]);
            return 1;
        }

        int status(int what) {
            return out(what, 0, 2) ? bad(-1) : status[what];
        }

        int count(int what) {
            if (out(what, 0, 3)) return bad();
            return new int[] {shops.size(), errand.size(), text.size(), buyers.size()}[what];
        }

        long digest() {
            List<Integer> all = new ArrayList<>(List.of(shops.size(), errand.size(), text.size(), buyers.size()));
            for (int i = 0; i < shops.size(); i++) {
                int near = 0;
                for (int j = 0; j < shops.size(); j++) {
                    near |= i != j && pairs.contains(pair(i, j)) ? 1 << j : 0;
                }
                for (int v : shops.get(i)) {
                    all.add(v);
                }
                all.add(near);
            }
            int bits = 0;
            for (int shop : free) {
                bits |= 1 << shop;
            }
            all.addAll(List.of(bits, purse, arms));
            all.addAll(errand);
            all.addAll(text);
            for (int[] b : buyers) {
                all.addAll(List.of(b[0], b[1]));
            }
            long h = 647;
            for (int v : all) {
                h = 31 * h + v;
            }
            return h;
        }
    }
}
