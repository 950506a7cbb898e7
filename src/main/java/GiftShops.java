import java.util.NoSuchElementException;

/** Gift shops: things given are sorted, priced, sold, moved and proved; ../shared/DOC.md numbers the promises. */
public final class GiftShops {
    public static final int NONE = -1;

    private static final int MOST_THINGS = 100;
    private static final int MOST_SALES = 200;
    private static final int GIVERS = 20;
    private static final int KINDS = 8;
    private static final int STATES = 10;
    private static final int SHOPS = 5;
    private static final int HANDS = 10;
    private static final int MOST_ROOM = 40;
    private static final int FIRST_ROOM = 10;
    private static final int MOST_BASE = 10000;
    private static final int FIRST_BASE = 10;
    private static final int MOST_VAN_COST = 1000;
    private static final int FIRST_VAN_COST = 5;
    private static final int MOST_LET = 100;

    private static final int SEASONS = 4;
    private static final int ALL_SEASONS = 4;
    private static final int SEASON_WEEKS = 13;
    private static final int YEAR_WEEKS = 52;
    private static final int YEARS = 10;
    private static final int LAST_WEEK = 519;
    private static final int MOST_WEEKS_A_CALL = 60;
    private static final int SHELF_WEEKS = 5;
    private static final int MOST_RATE = 100;
    private static final int FIRST_RATE = 25;

    private static final int NEW = 0;
    private static final int ON_SHELF = 1;
    private static final int IN_STORE = 2;
    private static final int RAG = 3;
    private static final int LOOKED_UP = 4;
    private static final int SOLD = 5;
    private static final int LOST = 6;

    private final Thing[] things;
    private int thingCount;
    private final Sale[] sales;
    private int saleCount;
    private final Shop[] shops;
    private final int[] bases;
    private final Tape tape;
    private final Parser parser;
    private Rules rules;
    private Rules spareRules;
    private final int[] facts;
    private final int[] doubles;
    private final int[] agreed;
    private final int[] rates;
    private final Roads roads;
    private final Turns turns;
    private int now;
    private int vanCost;

    public GiftShops() {
        things = new Thing[MOST_THINGS];
        sales = new Sale[MOST_SALES];
        shops = new Shop[SHOPS];
        for (int i = 0; i < SHOPS; i++) {
            shops[i] = new Shop();
        }
        bases = new int[KINDS];
        for (int i = 0; i < KINDS; i++) {
            bases[i] = FIRST_BASE;
        }
        tape = new Tape();
        rules = new Rules();
        spareRules = new Rules();
        parser = new Parser(tape, spareRules);
        facts = new int[Rules.FACTS];
        doubles = new int[HANDS];
        agreed = new int[HANDS];
        rates = new int[YEARS];
        for (int i = 0; i < YEARS; i++) {
            rates[i] = FIRST_RATE;
        }
        roads = new Roads();
        turns = new Turns();
        vanCost = FIRST_VAN_COST;
    }

    public int give(int giver, int kind, int state, int season) {
        boolean known = within(giver, GIVERS) && within(kind, KINDS) && within(state, STATES)
                && within(season, ALL_SEASONS + 1);
        if (!known || thingCount >= MOST_THINGS) {
            return NONE;
        }
        things[thingCount] = new Thing(giver, kind, state, season);
        thingCount++;
        return thingCount - 1;
    }

    public boolean shelf(int shop, int room) {
        if (!within(shop, SHOPS) || !within(room, MOST_ROOM + 1)) {
            return false;
        }
        shops[shop].room = room;
        return true;
    }

    public boolean base(int kind, int n) {
        if (!within(kind, KINDS) || n < 1 || n > MOST_BASE) {
            return false;
        }
        bases[kind] = n;
        return true;
    }

    public int feed(long a, long b, long c) {
        tape.addBytes(a);
        tape.addBytes(b);
        tape.addBytes(c);
        return tape.length;
    }

    public int text() {
        int fault = parser.readInto(spareRules);
        tape.length = 0;
        // a tape with a fault is no text: the one there was stays
        if (fault == 0) {
            Rules old = rules;
            rules = spareRules;
            spareRules = old;
        }
        return fault;
    }

    public int sort(int thing, int shop) {
        if (!within(thing, thingCount) || !within(shop, SHOPS)) {
            return NONE;
        }
        Thing t = things[thing];
        if (t.place != NEW && t.place != IN_STORE && t.place != LOOKED_UP) {
            return NONE;
        }
        sortFor(t, shop);
        return t.place;
    }

    public int says(int hand, int thing, int way) {
        if (!within(hand, HANDS) || !within(thing, thingCount) || way < ON_SHELF || way > LOOKED_UP) {
            return NONE;
        }
        doubles[hand]++;
        if (wayByText(things[thing]) != way) {
            return 0;
        }
        agreed[hand]++;
        return 1;
    }

    public int habit(int hand) {
        if (!within(hand, HANDS) || doubles[hand] <= 0) {
            return NONE;
        }
        return (int) (agreed[hand] * 1000L / doubles[hand]);
    }

    public int weeks(int n) {
        if (!within(n, MOST_WEEKS_A_CALL + 1) || now + n > LAST_WEEK) {
            return NONE;
        }
        for (int i = 0; i < n; i++) {
            endWeek();
            // rags have gone by now, so that the season's things find the room they leave
            if (now % SEASON_WEEKS == 0) {
                beginSeason();
            }
        }
        return now;
    }

    public int price(int thing) {
        return liesOnShelf(thing) ? priceNow(things[thing]) : NONE;
    }

    public int sell(int thing) {
        if (!liesOnShelf(thing) || saleCount >= MOST_SALES) {
            return NONE;
        }
        Thing t = things[thing];
        sales[saleCount] = new Sale(t, priceNow(t), now);
        t.lastSale = saleCount;
        shops[t.shop].sold[t.kind]++;
        leaveShelf(t, SOLD);
        saleCount++;
        return saleCount - 1;
    }

    public boolean undo(int sale) {
        if (!within(sale, saleCount)) {
            return false;
        }
        Sale s = sales[sale];
        if (s.isVoid || s.thing.lastSale != sale) {
            return false;
        }
        s.isVoid = true;
        shops[s.shop].sold[s.thing.kind]--;
        comeOnShelf(s.thing, s.shop, s.since);
        return true;
    }

    public boolean lose(int thing) {
        if (!liesOnShelf(thing)) {
            return false;
        }
        Thing t = things[thing];
        shops[t.shop].lost++;
        leaveShelf(t, LOST);
        return true;
    }

    public int thefts(int shop, int let) {
        if (!within(shop, SHOPS) || !within(let, MOST_LET + 1)) {
            return NONE;
        }
        return Math.max(0, shops[shop].lost - let);
    }

    public int worth(int thing, int shop) {
        if (!within(thing, thingCount) || !within(shop, SHOPS)) {
            return NONE;
        }
        return worthIn(things[thing], shop);
    }

    public int where(int thing) {
        return liesOnShelf(thing) ? betterShop(things[thing]) : NONE;
    }

    public boolean move(int thing) {
        int shop = liesOnShelf(thing) ? betterShop(things[thing]) : NONE;
        if (shop == NONE) {
            return false;
        }
        Thing t = things[thing];
        leaveShelf(t, NEW);
        comeOnShelf(t, shop, now);
        t.moves++;
        return true;
    }

    public boolean van(int cost) {
        if (!within(cost, MOST_VAN_COST + 1)) {
            return false;
        }
        vanCost = cost;
        return true;
    }

    public boolean way(int a, int b, int n) {
        return roads.tell(a, b, n);
    }

    public int round(int set) {
        return roads.shortestRound(set);
    }

    public int helper(int set) {
        return turns.addHelper(set);
    }

    public int least(int set) {
        return turns.leastTurns(set);
    }

    public boolean rate(int n) {
        if (!within(n, MOST_RATE + 1)) {
            return false;
        }
        for (int year = now / YEAR_WEEKS; year < YEARS; year++) {
            rates[year] = n;
        }
        return true;
    }

    public int relief(int giver, int year) {
        if (!within(giver, GIVERS) || !within(year, now / YEAR_WEEKS + 1)) {
            return NONE;
        }
        int sum = 0;
        for (int i = 0; i < saleCount; i++) {
            Sale s = sales[i];
            if (!s.isVoid && s.thing.giver == giver && s.week / YEAR_WEEKS == year) {
                sum += s.price;
            }
        }
        return sum * rates[year] / 100;
    }

    public int look(int thing, int what) throws NoSuchElementException {
        if (!within(thing, thingCount) || !within(what, 5)) {
            throw new NoSuchElementException("no such thing, or nothing such to look at");
        }
        Thing t = things[thing];
        switch (what) {
            case 0:
                return t.place;
            case 1:
                return t.place == ON_SHELF || t.place == SOLD || t.place == LOST ? t.shop : NONE;
            case 2:
                return t.place == ON_SHELF ? t.since : NONE;
            case 3:
                return t.moves;
            default:
                return wayByText(t);
        }
    }

    public int count(int what) {
        switch (what) {
            case 0:
                return thingCount;
            case 1:
                return now;
            case 2:
                return validSales();
            case 3:
                return validSum();
            case 4:
                return thingsThatAre(ON_SHELF);
            case 5:
                return thingsThatAre(IN_STORE);
            case 6:
                return thingsThatAre(RAG);
            case 7:
                return rules.lines;
            case 8:
                return tape.length;
            case 9:
                return turns.helpers;
            default:
                return NONE;
        }
    }

    private static boolean within(int n, int bound) {
        return n >= 0 && n < bound;
    }

    private boolean liesOnShelf(int thing) {
        return within(thing, thingCount) && things[thing].place == ON_SHELF;
    }

    private int seasonNow() {
        return now / SEASON_WEEKS % SEASONS;
    }

    private int wayByText(Thing t) {
        facts[Rules.KIND] = t.kind;
        facts[Rules.STATE] = t.state;
        facts[Rules.SEASON] = t.season;
        facts[Rules.NOW] = seasonNow();
        facts[Rules.BASE] = bases[t.kind];
        facts[Rules.GIVER] = t.giver;
        return rules.wayFor(facts);
    }

    private void sortFor(Thing t, int shop) {
        int way = wayByText(t);
        if (way != ON_SHELF) {
            t.place = way;
        } else if (shops[shop].hasRoom()) {
            comeOnShelf(t, shop, now);
        } else {
            t.place = IN_STORE;
        }
    }

    private void comeOnShelf(Thing t, int shop, int since) {
        t.place = ON_SHELF;
        t.shop = shop;
        t.since = since;
        shops[shop].lying++;
    }

    private void leaveShelf(Thing t, int place) {
        shops[t.shop].lying--;
        t.place = place;
    }

    private void endWeek() {
        now++;
        for (int i = 0; i < thingCount; i++) {
            if (things[i].place == ON_SHELF) {
                endWeekOnShelf(things[i]);
            }
        }
    }

    private void endWeekOnShelf(Thing t) {
        shops[t.shop].lain[t.kind]++;
        // a sale made void late brings back what lay there for longer
        if (now - t.since >= SHELF_WEEKS) {
            leaveShelf(t, RAG);
        }
    }

    private void beginSeason() {
        int season = seasonNow();
        for (int i = 0; i < thingCount; i++) {
            Thing t = things[i];
            if (t.place == IN_STORE && (t.season == season || t.season == ALL_SEASONS)) {
                sortFor(t, firstShopWithRoom());
            }
        }
    }

    private int firstShopWithRoom() {
        for (int i = 0; i < SHOPS; i++) {
            if (shops[i].hasRoom()) {
                return i;
            }
        }
        return 0;
    }

    private int priceNow(Thing t) {
        int onShelf = now - t.since;
        return Math.max(1, bases[t.kind] * (10 - 2 * onShelf) / 10);
    }

    private int worthIn(Thing t, int shop) {
        return shops[shop].expected(bases[t.kind], t.kind);
    }

    private int betterShop(Thing t) {
        int best = NONE;
        int bestWorth = NONE;
        for (int i = 0; i < SHOPS; i++) {
            if (i != t.shop && shops[i].hasRoom() && worthIn(t, i) > bestWorth) {
                best = i;
                bestWorth = worthIn(t, i);
            }
        }
        int stays = shops[t.shop].expected(priceNow(t), t.kind);
        return best != NONE && bestWorth - stays > vanCost ? best : NONE;
    }

    private int validSales() {
        int n = 0;
        for (int i = 0; i < saleCount; i++) {
            if (!sales[i].isVoid) {
                n++;
            }
        }
        return n;
    }

    private int validSum() {
        int sum = 0;
        for (int i = 0; i < saleCount; i++) {
            if (!sales[i].isVoid) {
                sum += sales[i].price;
            }
        }
        return sum;
    }

    private int thingsThatAre(int place) {
        int n = 0;
        for (int i = 0; i < thingCount; i++) {
            if (things[i].place == place) {
                n++;
            }
        }
        return n;
    }

    private static final class Thing {
        private final int giver;
        private final int kind;
        private final int state;
        private final int season;
        private int place;
        private int shop;
        private int since;
        private int moves;
        private int lastSale;

        private Thing(int giver, int kind, int state, int season) {
            this.giver = giver;
            this.kind = kind;
            this.state = state;
            this.season = season;
            this.place = NEW;
            this.lastSale = NONE;
        }
    }

    private static final class Sale {
        private final Thing thing;
        private final int shop;
        private final int since;
        private final int price;
        private final int week;
        private boolean isVoid;

        private Sale(Thing thing, int price, int week) {
            this.thing = thing;
            this.shop = thing.shop;
            this.since = thing.since;
            this.price = price;
            this.week = week;
        }
    }

    private static final class Shop {
        private int room;
        private int lying;
        private int lost;
        private final int[] sold;
        private final int[] lain;

        private Shop() {
            room = FIRST_ROOM;
            sold = new int[KINDS];
            lain = new int[KINDS];
        }

        private boolean hasRoom() {
            return lying < room;
        }

        // sold and lain are never below 0, so the divisor is 2 at least
        private int expected(int full, int kind) {
            return full * (sold[kind] + 1) / (sold[kind] + lain[kind] + 2);
        }
    }

    private static final class Tape {
        private static final int MOST_SIGNS = 600;

        private final char[] signs;
        private int length;

        private Tape() {
            signs = new char[MOST_SIGNS];
        }

        private void addBytes(long bytes) {
            for (int shift = 56; shift >= 0; shift -= 8) {
                int sign = (int) (bytes >>> shift) & 255;
                boolean known = sign == 10 || sign >= 32 && sign <= 126;
                if (known && length < MOST_SIGNS) {
                    signs[length] = (char) sign;
                    length++;
                }
            }
        }
    }

    /** Cuts a tape into tokens; a sign of the grammar is its own token's number. */
    private static final class Scanner {
        // cells of MOST_LETTERS signs: the ways by their numbers, two words of the grammar, the facts by theirs
        private static final String WORDS =
                "shelf   store   rag     look    when    and     kind    state   season  now     base    giver   ";
        private static final int WORD_COUNT = 12;
        private static final int FIRST_WAY = 200;
        private static final int WHEN = 204;
        private static final int AND = 205;
        private static final int FIRST_FACT = 206;
        private static final int NUMBER = 300;
        private static final int END = 301;
        private static final int WRONG = 302;
        private static final int MOST_LETTERS = 8;
        private static final int MOST_DIGITS = 4;

        private final Tape tape;
        private int token;
        private int start;
        private int end;
        private int number;

        private Scanner(Tape tape) {
            this.tape = tape;
        }

        private void begin() {
            end = 0;
            next();
        }

        private void next() {
            start = end;
            while (start < tape.length && isBlank(tape.signs[start])) {
                start++;
            }
            end = start;
            if (start >= tape.length) {
                token = END;
                return;
            }
            char sign = tape.signs[start];
            if (sign >= 'a' && sign <= 'z') {
                end = behindRun('a', 'z');
                token = wordToken();
            } else if (sign >= '0' && sign <= '9') {
                end = behindRun('0', '9');
                token = numberToken();
            } else {
                end++;
                token = "()<=+-;".indexOf(sign) >= 0 ? (int) sign : WRONG;
            }
        }

        private int behindRun(char lowest, char highest) {
            int place = start;
            while (place < tape.length && tape.signs[place] >= lowest && tape.signs[place] <= highest) {
                place++;
            }
            return place;
        }

        // a word that the grammar lacks can stand nowhere: it is as wrong as no token
        private int wordToken() {
            if (end - start > MOST_LETTERS) {
                return WRONG;
            }
            for (int i = 0; i < WORD_COUNT; i++) {
                if (spells(i)) {
                    return FIRST_WAY + i;
                }
            }
            return WRONG;
        }

        private boolean spells(int word) {
            for (int i = 0; i < MOST_LETTERS; i++) {
                char sign = start + i < end ? tape.signs[start + i] : ' ';
                if (WORDS.charAt(word * MOST_LETTERS + i) != sign) {
                    return false;
                }
            }
            return true;
        }

        private int numberToken() {
            if (end - start > MOST_DIGITS) {
                return WRONG;
            }
            number = 0;
            for (int i = start; i < end; i++) {
                number = number * 10 + (tape.signs[i] - '0');
            }
            return NUMBER;
        }

        private boolean isWay() {
            return token >= FIRST_WAY && token < WHEN;
        }

        private int wayTold() {
            return token - FIRST_WAY + ON_SHELF;
        }

        private boolean isFact() {
            return token >= FIRST_FACT && token < FIRST_FACT + Rules.FACTS;
        }

        private int factTold() {
            return token - FIRST_FACT;
        }

        private static boolean isBlank(char sign) {
            return sign == 10 || sign == 32;
        }
    }

    /** Reads a tape into rules; each method tells false at the first wrong token, whose fault is kept. */
    private static final class Parser {
        private static final int CANNOT_STAND = 1;
        private static final int TOO_MUCH = 5;
        private static final int MOST_WITHIN = 5;

        private final Scanner scanner;
        private Rules into;
        private int fault;

        private Parser(Tape tape, Rules first) {
            scanner = new Scanner(tape);
            into = first;
        }

        private int readInto(Rules rules) {
            into = rules;
            into.clear();
            fault = 0;
            scanner.begin();
            for (int i = 0; i <= Rules.MOST_LINES && scanner.token != Scanner.END; i++) {
                if (!readLine()) {
                    return fault;
                }
            }
            return fault;
        }

        private boolean readLine() {
            if (!scanner.isWay()) {
                return wrong(CANNOT_STAND);
            }
            if (into.lines >= Rules.MOST_LINES) {
                return wrong(TOO_MUCH);
            }
            int way = scanner.wayTold();
            scanner.next();
            if (!take(Scanner.WHEN) || !readTests(1) || !take(';')) {
                return false;
            }
            into.endLine(way);
            return true;
        }

        private boolean readTests(int depth) {
            if (!readTest(depth)) {
                return false;
            }
            for (int i = 0; i < Tape.MOST_SIGNS && scanner.token == Scanner.AND; i++) {
                scanner.next();
                if (!readTest(depth)) {
                    return false;
                }
                into.add(Rules.BOTH);
            }
            return true;
        }

        private boolean readTest(int depth) {
            if (!readSum(depth)) {
                return false;
            }
            if (scanner.token != '<' && scanner.token != '=') {
                return true;
            }
            int code = scanner.token == '<' ? Rules.LESS : Rules.SAME;
            scanner.next();
            if (!readSum(depth)) {
                return false;
            }
            into.add(code);
            return true;
        }

        private boolean readSum(int depth) {
            if (!readPart(depth)) {
                return false;
            }
            for (int i = 0; i < Tape.MOST_SIGNS && (scanner.token == '+' || scanner.token == '-'); i++) {
                int code = scanner.token == '+' ? Rules.PLUS : Rules.MINUS;
                scanner.next();
                if (!readPart(depth)) {
                    return false;
                }
                into.add(code);
            }
            return true;
        }

        private boolean readPart(int depth) {
            boolean opens = scanner.token == '(';
            boolean isNumber = scanner.token == Scanner.NUMBER;
            if (!opens && !isNumber && !scanner.isFact()) {
                return wrong(CANNOT_STAND);
            }
            if (depth > MOST_WITHIN) {
                return wrong(TOO_MUCH);
            }
            if (isNumber) {
                into.add(scanner.number);
            } else if (!opens) {
                into.add(Rules.FIRST_FACT - scanner.factTold());
            }
            scanner.next();
            return !opens || readTests(depth + 1) && take(')');
        }

        private boolean take(int token) {
            if (scanner.token != token) {
                return wrong(CANNOT_STAND);
            }
            scanner.next();
            return true;
        }

        private boolean wrong(int kind) {
            fault = kind + 16 * scanner.start;
            return false;
        }
    }

    /** The lines of a text, each as codes that put values on a stack or join its two last ones. */
    private static final class Rules {
        private static final int MOST_LINES = 16;
        private static final int KIND = 0;
        private static final int STATE = 1;
        private static final int SEASON = 2;
        private static final int NOW = 3;
        private static final int BASE = 4;
        private static final int GIVER = 5;
        private static final int FACTS = 6;

        // a code from 0 on is that number; FIRST_FACT and the FACTS - 1 codes below it are facts
        private static final int FIRST_FACT = -1;
        private static final int PLUS = -11;
        private static final int MINUS = -12;
        private static final int LESS = -13;
        private static final int SAME = -14;
        private static final int BOTH = -15;

        // five levels, in each of them a sum, a comparison and an "and" may wait, and one value more
        private static final int MOST_WAITING = 16;

        private final int[] codes;
        private final int[] ends;
        private final int[] ways;
        private final int[] stack;
        private int size;
        private int lines;

        private Rules() {
            codes = new int[Tape.MOST_SIGNS];
            ends = new int[MOST_LINES];
            ways = new int[MOST_LINES];
            stack = new int[MOST_WAITING];
        }

        private void clear() {
            size = 0;
            lines = 0;
        }

        private void add(int code) {
            if (size < codes.length) {
                codes[size] = code;
                size++;
            }
        }

        private void endLine(int way) {
            if (lines < MOST_LINES) {
                ways[lines] = way;
                ends[lines] = size;
                lines++;
            }
        }

        private int wayFor(int[] facts) {
            int from = 0;
            for (int i = 0; i < lines; i++) {
                if (valueOf(from, ends[i], facts) != 0) {
                    return ways[i];
                }
                from = ends[i];
            }
            return RAG;
        }

        private int valueOf(int from, int to, int[] facts) {
            int top = 0;
            for (int i = from; i < to; i++) {
                int code = codes[i];
                if (code > FIRST_FACT - FACTS && top < MOST_WAITING) {
                    stack[top] = code >= 0 ? code : facts[FIRST_FACT - code];
                    top++;
                } else if (top > 1) {
                    top--;
                    stack[top - 1] = joined(code, stack[top - 1], stack[top]);
                }
            }
            return stack[0];
        }

        private static int joined(int code, int left, int right) {
            switch (code) {
                case PLUS:
                    return left + right;
                case MINUS:
                    return left - right;
                case LESS:
                    return left < right ? 1 : 0;
                case SAME:
                    return left == right ? 1 : 0;
                default:
                    return left != 0 && right != 0 ? 1 : 0;
            }
        }
    }

    /** The ways between shops and depot, and the van's shortest round. */
    private static final class Roads {
        private static final int DEPOT = SHOPS;
        private static final int PLACES = SHOPS + 1;
        private static final int SETS = 1 << SHOPS;
        private static final int LONGEST = 99;
        private static final int FIRST_LENGTH = 10;
        private static final int FAR = 1000000;

        private final int[] lengths;
        // for each set and a shop of it: the least way from the depot through the set that ends there
        private final int[] endingAt;

        private Roads() {
            lengths = new int[PLACES * PLACES];
            for (int i = 0; i < lengths.length; i++) {
                lengths[i] = FIRST_LENGTH;
            }
            endingAt = new int[SETS * SHOPS];
        }

        private boolean tell(int a, int b, int length) {
            boolean known = within(a, PLACES) && within(b, PLACES) && a != b;
            if (!known || !within(length, LONGEST + 1)) {
                return false;
            }
            lengths[a * PLACES + b] = length;
            lengths[b * PLACES + a] = length;
            return true;
        }

        private int shortestRound(int set) {
            if (!within(set, SETS)) {
                return NONE;
            }
            if (set == 0) {
                return 0;
            }
            for (int part = 1; part <= set; part++) {
                if ((part & set) == part) {
                    fillPart(part);
                }
            }
            return leastInto(set, DEPOT);
        }

        private void fillPart(int part) {
            for (int last = 0; last < SHOPS; last++) {
                if ((part >> last & 1) != 0) {
                    endingAt[part * SHOPS + last] = leastInto(part & ~(1 << last), last);
                }
            }
        }

        private int leastInto(int part, int place) {
            if (part == 0) {
                return lengths[DEPOT * PLACES + place];
            }
            int best = FAR;
            for (int last = 0; last < SHOPS; last++) {
                if ((part >> last & 1) != 0) {
                    best = Math.min(best, endingAt[part * SHOPS + last] + lengths[last * PLACES + place]);
                }
            }
            return best;
        }
    }

    /** Who can come when, and turns shared out so that nobody has more than need be. */
    private static final class Turns {
        private static final int MOST_HELPERS = 10;
        private static final int HALF_DAYS = 12;
        private static final int SETS = 1 << HALF_DAYS;

        private final int[] canCome;
        private final int[] turnsOf;
        private int helpers;
        private int triedHelpers;
        private int triedDays;

        private Turns() {
            canCome = new int[MOST_HELPERS];
            turnsOf = new int[MOST_HELPERS];
        }

        private int addHelper(int set) {
            if (!within(set, SETS) || helpers >= MOST_HELPERS) {
                return NONE;
            }
            canCome[helpers] = set;
            helpers++;
            return helpers - 1;
        }

        private int leastTurns(int set) {
            if (!within(set, SETS) || !eachDayHasTwo(set)) {
                return NONE;
            }
            for (int i = 0; i < MOST_HELPERS; i++) {
                turnsOf[i] = 0;
            }
            int most = 0;
            for (int day = 0; day < HALF_DAYS; day++) {
                if ((set >> day & 1) != 0) {
                    most = fillPlace(day, most);
                    most = fillPlace(day, most);
                }
            }
            return most;
        }

        private boolean eachDayHasTwo(int set) {
            for (int day = 0; day < HALF_DAYS; day++) {
                if ((set >> day & 1) != 0 && helpersOn(day) < 2) {
                    return false;
                }
            }
            return true;
        }

        private int helpersOn(int day) {
            int n = 0;
            for (int i = 0; i < helpers; i++) {
                n += canCome[i] >> day & 1;
            }
            return n;
        }

        // what the days so far can't have with fewer turns, all the days can't either: so the bound only grows
        private int fillPlace(int day, int atLeast) {
            for (int most = atLeast; most <= HALF_DAYS; most++) {
                triedHelpers = 0;
                triedDays = 0;
                if (findHelper(day, most, 0)) {
                    return most;
                }
            }
            return HALF_DAYS;
        }

        private boolean findHelper(int day, int most, int depth) {
            if (depth > HALF_DAYS || (triedDays >> day & 1) != 0) {
                return false;
            }
            triedDays |= 1 << day;
            for (int i = 0; i < helpers; i++) {
                boolean couldCome = ((canCome[i] & ~turnsOf[i]) >> day & 1) != 0;
                if (couldCome && (triedHelpers >> i & 1) == 0) {
                    triedHelpers |= 1 << i;
                    if (Integer.bitCount(turnsOf[i]) < most || handOver(i, most, depth)) {
                        turnsOf[i] |= 1 << day;
                        return true;
                    }
                }
            }
            return false;
        }

        private boolean handOver(int helper, int most, int depth) {
            for (int day = 0; day < HALF_DAYS; day++) {
                if ((turnsOf[helper] >> day & 1) != 0 && findHelper(day, most, depth + 1)) {
                    turnsOf[helper] &= ~(1 << day);
                    return true;
                }
            }
            return false;
        }
    }
}
