import java.util.ArrayList;
import java.util.List;
import java.util.regex.Matcher;
import java.util.regex.Pattern;

/** The document once more, written for plainness alone: nothing is kept that can be counted again from what happened. */
final class Model {
    static final class Thing {
        int giver, kind, state, season, is, shop, since, moved;
    }

    static final class Sale {
        Thing thing;
        int shop, since, price, week;
        boolean isVoid;
    }

    /** An E, TEST, SUM or PART: a leaf has no left side. */
    static final class Node {
        String sign;
        Node left, right;

        Node(String sign, Node left, Node right) {
            this.sign = sign;
            this.left = left;
            this.right = right;
        }
    }

    static final class Line {
        int way;
        Node tests;
    }

    static final class Fault extends Exception {
        private static final long serialVersionUID = 1;
        final int number;

        Fault(int kind, int place) {
            number = kind + 16 * place;
        }
    }

    private static final Pattern TOKEN = Pattern.compile("[ \n]*(?:([a-z]+)|([0-9]+)|([^ \n]))");
    private static final List<String> WAYS = List.of("shelf", "store", "rag", "look");
    private static final List<String> FACTS = List.of("kind", "state", "season", "now", "base", "giver");

    final List<Thing> things = new ArrayList<>();
    final List<Sale> sales = new ArrayList<>();
    final List<Integer> lainShop = new ArrayList<>();
    final List<Integer> lainKind = new ArrayList<>();
    final List<Integer> lostShop = new ArrayList<>();
    final int[] rooms = {10, 10, 10, 10, 10};
    final int[] bases = {10, 10, 10, 10, 10, 10, 10, 10};
    final int[][] ways = new int[6][6];
    final List<Integer> helpers = new ArrayList<>();
    final List<int[]> rates = new ArrayList<>();
    final List<int[]> doubles = new ArrayList<>();
    String tape = "";
    List<Line> lines = new ArrayList<>();
    int now = 0;
    int van = 5;

    private List<String> tokens;
    private List<Integer> places;
    private int at;

    Model() {
        for (int[] row : ways) {
            java.util.Arrays.fill(row, 10);
        }
    }

    static boolean in(int n, int low, int high) {
        return low <= n && n <= high;
    }

    Thing thing(int n) {
        return in(n, 0, things.size() - 1) ? things.get(n) : null;
    }

    Thing shelved(int n) {
        Thing t = thing(n);
        return t != null && t.is == 1 ? t : null;
    }

    int give(int giver, int kind, int state, int season) {
        if (!in(giver, 0, 19) || !in(kind, 0, 7) || !in(state, 0, 9) || !in(season, 0, 4) || things.size() == 100) {
            return -1;
        }
        Thing t = new Thing();
        t.giver = giver;
        t.kind = kind;
        t.state = state;
        t.season = season;
        things.add(t);
        return things.size() - 1;
    }

    int shelf(int shop, int room) {
        if (!in(shop, 0, 4) || !in(room, 0, 40)) {
            return 0;
        }
        rooms[shop] = room;
        return 1;
    }

    int base(int kind, int n) {
        if (!in(kind, 0, 7) || !in(n, 1, 10000)) {
            return 0;
        }
        bases[kind] = n;
        return 1;
    }

    int feed(long... words) {
        for (long word : words) {
            for (byte b : java.nio.ByteBuffer.allocate(8).putLong(word).array()) {
                if ((b == 10 || b >= 32 && b != 127) && tape.length() < 600) {
                    tape += (char) b;
                }
            }
        }
        return tape.length();
    }

    int text() {
        String read = tape;
        tape = "";
        try {
            cut(read);
            lines = parsed();
            return 0;
        } catch (Fault f) {
            return f.number;
        }
    }

    private void cut(String text) {
        tokens = new ArrayList<>();
        places = new ArrayList<>();
        Matcher m = TOKEN.matcher(text);
        for (int from = 0; m.find(from); from = m.end()) {
            String word = m.group(1);
            String number = m.group(2);
            String sign = m.group(3);
            tokens.add(word != null ? (word.length() > 8 ? "!" : word)
                    : number != null ? (number.length() > 4 ? "!" : number)
                    : "()<=+-;".contains(sign) ? sign : "!");
            places.add(m.start(word != null ? 1 : number != null ? 2 : 3));
        }
        tokens.add("");
        places.add(text.length());
        at = 0;
    }

    private List<Line> parsed() throws Fault {
        List<Line> read = new ArrayList<>();
        while (!tokens.get(at).isEmpty()) {
            Line line = new Line();
            line.way = WAYS.indexOf(tokens.get(at)) + 1;
            if (line.way == 0) {
                throw new Fault(1, places.get(at));
            }
            if (read.size() == 16) {
                throw new Fault(5, places.get(at));
            }
            at++;
            take("when");
            line.tests = e(0);
            take(";");
            read.add(line);
        }
        return read;
    }

    private void take(String token) throws Fault {
        if (!tokens.get(at).equals(token)) {
            throw new Fault(1, places.get(at));
        }
        at++;
    }

    private Node e(int others) throws Fault {
        Node left = test(others);
        while (tokens.get(at).equals("and")) {
            at++;
            left = new Node("and", left, test(others));
        }
        return left;
    }

    private Node test(int others) throws Fault {
        Node left = sum(others);
        String sign = tokens.get(at);
        if (sign.equals("<") || sign.equals("=")) {
            at++;
            return new Node(sign, left, sum(others));
        }
        return left;
    }

    private Node sum(int others) throws Fault {
        Node left = part(others);
        while (tokens.get(at).equals("+") || tokens.get(at).equals("-")) {
            String sign = tokens.get(at++);
            left = new Node(sign, left, part(others));
        }
        return left;
    }

    private Node part(int others) throws Fault {
        String token = tokens.get(at);
        if (!token.equals("(") && !FACTS.contains(token) && !token.matches("[0-9]+")) {
            throw new Fault(1, places.get(at));
        }
        if (others == 5) {
            throw new Fault(5, places.get(at));
        }
        at++;
        if (!token.equals("(")) {
            return new Node(token, null, null);
        }
        Node within = e(others + 1);
        take(")");
        return within;
    }

    private long value(Node n, Thing t) {
        if (n.left == null) {
            int[] facts = {t.kind, t.state, t.season, now / 13 % 4, bases[t.kind], t.giver};
            int fact = FACTS.indexOf(n.sign);
            return fact >= 0 ? facts[fact] : Long.parseLong(n.sign);
        }
        long left = value(n.left, t);
        long right = value(n.right, t);
        return switch (n.sign) {
            case "and" -> left != 0 && right != 0 ? 1 : 0;
            case "<" -> left < right ? 1 : 0;
            case "=" -> left == right ? 1 : 0;
            case "+" -> left + right;
            default -> left - right;
        };
    }

    int wayOf(Thing t) {
        for (Line line : lines) {
            if (value(line.tests, t) != 0) {
                return line.way;
            }
        }
        return 3;
    }

    boolean room(int shop) {
        return things.stream().filter(t -> t.is == 1 && t.shop == shop).count() < rooms[shop];
    }

    void sorted(Thing t, int shop) {
        int way = wayOf(t);
        t.is = way == 1 && !room(shop) ? 2 : way;
        if (t.is == 1) {
            t.shop = shop;
            t.since = now;
        }
    }

    int sort(int thing, int shop) {
        Thing t = thing(thing);
        if (t == null || !in(shop, 0, 4) || t.is != 0 && t.is != 2 && t.is != 4) {
            return -1;
        }
        sorted(t, shop);
        return t.is;
    }

    int says(int hand, int thing, int way) {
        if (!in(hand, 0, 9) || thing(thing) == null || !in(way, 1, 4)) {
            return -1;
        }
        int agrees = wayOf(thing(thing)) == way ? 1 : 0;
        doubles.add(new int[] {hand, agrees});
        return agrees;
    }

    int habit(int hand) {
        long all = doubles.stream().filter(d -> d[0] == hand).count();
        long agree = doubles.stream().filter(d -> d[0] == hand && d[1] == 1).count();
        return all == 0 ? -1 : (int) (1000 * agree / all);
    }

    int weeks(int n) {
        if (!in(n, 0, 60) || !in(now + n, 0, 519)) {
            return -1;
        }
        for (int i = 0; i < n; i++) {
            for (Thing t : things) {
                if (t.is == 1) {
                    lainShop.add(t.shop);
                    lainKind.add(t.kind);
                    t.is = now + 1 - t.since >= 5 ? 3 : 1;
                }
            }
            now++;
            if (now % 13 == 0) {
                newSeason();
            }
        }
        return now;
    }

    private void newSeason() {
        for (Thing t : things) {
            if (t.is == 2 && (t.season == 4 || t.season == now / 13 % 4)) {
                int shop = 0;
                while (shop < 5 && !room(shop)) {
                    shop++;
                }
                sorted(t, shop % 5);
            }
        }
    }

    int priceOf(Thing t) {
        int price = bases[t.kind] * (10 - 2 * (now - t.since)) / 10;
        return price < 1 ? 1 : price;
    }

    int price(int thing) {
        return shelved(thing) == null ? -1 : priceOf(shelved(thing));
    }

    int sell(int thing) {
        Thing t = shelved(thing);
        if (t == null || sales.size() == 200) {
            return -1;
        }
        Sale s = new Sale();
        s.thing = t;
        s.shop = t.shop;
        s.since = t.since;
        s.price = priceOf(t);
        s.week = now;
        sales.add(s);
        t.is = 5;
        return sales.size() - 1;
    }

    int undo(int sale) {
        if (!in(sale, 0, sales.size() - 1) || sales.get(sale).isVoid) {
            return 0;
        }
        Sale s = sales.get(sale);
        s.isVoid = true;
        s.thing.is = 1;
        s.thing.shop = s.shop;
        s.thing.since = s.since;
        return 1;
    }

    int lose(int thing) {
        Thing t = shelved(thing);
        if (t == null) {
            return 0;
        }
        t.is = 6;
        lostShop.add(t.shop);
        return 1;
    }

    int thefts(int shop, int let) {
        if (!in(shop, 0, 4) || !in(let, 0, 100)) {
            return -1;
        }
        int lost = (int) lostShop.stream().filter(s -> s == shop).count();
        return lost > let ? lost - let : 0;
    }

    int share(int price, int kind, int shop) {
        int s = (int) sales.stream().filter(x -> !x.isVoid && x.shop == shop && x.thing.kind == kind).count();
        int h = 0;
        for (int i = 0; i < lainShop.size(); i++) {
            h += lainShop.get(i) == shop && lainKind.get(i) == kind ? 1 : 0;
        }
        return price * (s + 1) / (s + h + 2);
    }

    int worth(int thing, int shop) {
        Thing t = thing(thing);
        return t == null || !in(shop, 0, 4) ? -1 : share(bases[t.kind], t.kind, shop);
    }

    int where(int thing) {
        Thing t = shelved(thing);
        if (t == null) {
            return -1;
        }
        int best = -1;
        for (int shop = 4; shop >= 0; shop--) {
            if (shop != t.shop && room(shop) && (best < 0 || worth(thing, shop) >= worth(thing, best))) {
                best = shop;
            }
        }
        return best >= 0 && worth(thing, best) - share(priceOf(t), t.kind, t.shop) > van ? best : -1;
    }

    int move(int thing) {
        int shop = where(thing);
        if (shop < 0) {
            return 0;
        }
        Thing t = thing(thing);
        t.shop = shop;
        t.since = now;
        t.moved++;
        return 1;
    }

    int van(int cost) {
        van = in(cost, 0, 1000) ? cost : van;
        return in(cost, 0, 1000) ? 1 : 0;
    }

    int way(int a, int b, int n) {
        if (!in(a, 0, 5) || !in(b, 0, 5) || a == b || !in(n, 0, 99)) {
            return 0;
        }
        ways[a][b] = n;
        ways[b][a] = n;
        return 1;
    }

    int round(int set) {
        return in(set, 0, 31) ? (set == 0 ? 0 : from(5, set)) : -1;
    }

    private int from(int place, int set) {
        if (set == 0) {
            return ways[place][5];
        }
        int best = Integer.MAX_VALUE;
        for (int next = 0; next < 5; next++) {
            if ((set & 1 << next) != 0) {
                best = Math.min(best, ways[place][next] + from(next, set - (1 << next)));
            }
        }
        return best;
    }

    int helper(int set) {
        if (!in(set, 0, 4095) || helpers.size() == 10) {
            return -1;
        }
        helpers.add(set);
        return helpers.size() - 1;
    }

    /** By the cuts of the flow: any set of helpers must bear what the others can't. */
    int least(int set) {
        if (!in(set, 0, 4095) || left(set, 0) > 0) {
            return -1;
        }
        int t = 0;
        for (int some = 1; some < 1 << helpers.size(); some++) {
            int size = Integer.bitCount(some);
            t = Math.max(t, (left(set, some) + size - 1) / size);
        }
        return t;
    }

    private int left(int set, int without) {
        int left = 0;
        for (int day = 0; day < 12; day++) {
            int others = 0;
            for (int i = 0; i < helpers.size(); i++) {
                others += (without >> i & 1) == 0 ? helpers.get(i) >> day & 1 : 0;
            }
            left += (set >> day & 1) * Math.max(0, 2 - others);
        }
        return left;
    }

    int rate(int n) {
        if (!in(n, 0, 100)) {
            return 0;
        }
        rates.add(new int[] {now, n});
        return 1;
    }

    int relief(int giver, int year) {
        if (!in(giver, 0, 19) || !in(year, 0, now / 52)) {
            return -1;
        }
        int rate = 25;
        for (int[] told : rates) {
            rate = told[0] < 52 * (year + 1) ? told[1] : rate;
        }
        int sum = sales.stream().filter(s -> !s.isVoid && s.thing.giver == giver && s.week / 52 == year)
                .mapToInt(s -> s.price).sum();
        return sum * rate / 100;
    }

    long look(int thing, int what) {
        Thing t = thing(thing);
        if (t == null || !in(what, 0, 4)) {
            return Check.THROWS;
        }
        return switch (what) {
            case 0 -> t.is;
            case 1 -> t.is == 1 || t.is >= 5 ? t.shop : -1;
            case 2 -> t.is == 1 ? t.since : -1;
            case 3 -> t.moved;
            default -> wayOf(t);
        };
    }

    int are(int is) {
        return (int) things.stream().filter(t -> t.is == is).count();
    }

    int count(int what) {
        return switch (what) {
            case 0 -> things.size();
            case 1 -> now;
            case 2 -> (int) sales.stream().filter(s -> !s.isVoid).count();
            case 3 -> sales.stream().filter(s -> !s.isVoid).mapToInt(s -> s.price).sum();
            case 4 -> are(1);
            case 5 -> are(2);
            case 6 -> are(3);
            case 7 -> lines.size();
            case 8 -> tape.length();
            case 9 -> helpers.size();
            default -> -1;
        };
    }
}
