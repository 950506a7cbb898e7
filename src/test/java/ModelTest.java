import java.util.Random;

/** Runs of 512 calls chosen by a fixed seed, each answer held against the model's. */
public final class ModelTest {
    private static final int RUNS = 1500;
    private static final int CALLS = 512;
    private static final String[] WORDS = {"shelf", "store", "rag", "look", "when", "and", "kind", "state", "season",
        "now", "base", "giver", "(", ")", "<", "=", "+", "-", ";", "1", "0", "9999", "12345", "sell", "abcdefghi", "?"};
    private static final String[] FACTS = {"kind", "state", "season", "now", "base", "giver"};

    private final Random random;
    private GiftShops x;
    private Model m;
    private int manner;

    private ModelTest(long seed) {
        random = new Random(seed);
    }

    public static void main(String[] args) {
        for (int run = 0; run < RUNS; run++) {
            new ModelTest(run).run(run);
        }
        Check.end();
    }

    private void run(int run) {
        x = new GiftShops();
        m = new Model();
        manner = run % 4;
        int calls = 0;
        while (calls < CALLS) {
            String where = "run " + run + ", call " + calls + ": ";
            int what = random.nextInt(100);
            if (what < 4) {
                calls += newText(where);
            } else if (what < 20) {
                sorting(where, what % 4);
            } else if (what < 60) {
                selling(where);
            } else if (what < 75) {
                asking(where, random.nextInt(8));
            } else if (what < 90) {
                telling(where, random.nextInt(8));
            } else {
                planning(where, random.nextInt(4));
            }
            calls++;
        }
        everything("run " + run + ", at its end: ");
    }

    /** Mostly a number from low to high, now and then one beside it or far off. */
    private int some(int low, int high) {
        int wild = random.nextInt(60);
        if (wild == 0) {
            return low - 1;
        }
        if (wild == 1) {
            return high + 1;
        }
        if (wild == 2) {
            return random.nextInt();
        }
        if (wild == 3) {
            return random.nextBoolean() ? Integer.MIN_VALUE : Integer.MAX_VALUE;
        }
        return low + random.nextInt(high - low + 1);
    }

    private int someThing() {
        return some(0, Math.max(0, m.things.size() - 1));
    }

    private void due(String call, long got, long want) {
        Check.due(call, got, want);
    }

    private int flag(boolean b) {
        return b ? 1 : 0;
    }

    private int newText(String where) {
        StringBuilder text = new StringBuilder();
        int kind = random.nextInt(6);
        if (kind == 0) {
            for (int i = random.nextInt(30); i > 0; i--) {
                text.append(WORDS[random.nextInt(WORDS.length)]).append(random.nextInt(3) == 0 ? "" : " ");
            }
        } else {
            for (int i = random.nextInt(kind == 1 ? 20 : 5); i >= 0; i--) {
                line(text);
            }
        }
        if (kind == 2 && text.length() > 0) {
            text.setCharAt(random.nextInt(text.length()), (char) random.nextInt(128));
        }
        Check.feed(x, text.toString());
        for (int i = 0; i < text.length(); i++) {
            m.feed(text.charAt(i));
        }
        due(where + "signs of [" + text + "]", x.count(8), m.count(8));
        if (random.nextInt(6) == 0) {
            long a = random.nextLong();
            due(where + "feed", x.feed(a, ~a, a * a), m.feed(a, ~a, a * a));
        }
        due(where + "text of [" + text + "]", x.text(), m.text());
        due(where + "lines", x.count(7), m.count(7));
        return 4 + text.length() / 24;
    }

    private void line(StringBuilder text) {
        text.append(WORDS[random.nextInt(3) == 0 ? random.nextInt(4) : 0]).append(" when");
        blank(text, true);
        tests(text, 1);
        text.append(';');
        blank(text, false);
    }

    private void blank(StringBuilder text, boolean must) {
        text.append(random.nextInt(9) == 0 ? "\n" : must || random.nextInt(3) == 0 ? " " : "");
    }

    private void tests(StringBuilder text, int depth) {
        test(text, depth);
        while (random.nextInt(4) == 0) {
            text.append(" and ");
            test(text, depth);
        }
    }

    private void test(StringBuilder text, int depth) {
        sum(text, depth);
        if (random.nextInt(3) > 0) {
            text.append(random.nextInt(3) > 0 ? '<' : '=');
            sum(text, depth);
        }
    }

    private void sum(StringBuilder text, int depth) {
        part(text, depth);
        while (random.nextInt(3) == 0) {
            blank(text, false);
            text.append(random.nextBoolean() ? '+' : '-');
            part(text, depth);
        }
    }

    private void part(StringBuilder text, int depth) {
        int kind = random.nextInt(10);
        if (kind < 3 && depth < 6 + random.nextInt(2)) {
            text.append('(');
            tests(text, depth + 1);
            text.append(')');
        } else if (kind < 7) {
            text.append(FACTS[random.nextInt(FACTS.length)]);
        } else {
            text.append(random.nextInt(random.nextInt(5) == 0 ? 10000 : 8));
        }
    }

    private void sorting(String where, int which) {
        if (which == 0) {
            int hand = some(0, 9);
            int thing = someThing();
            int way = some(1, 4);
            due(where + "says", x.says(hand, thing, way), m.says(hand, thing, way));
        } else if (which == 1) {
            int hand = some(0, 9);
            due(where + "habit", x.habit(hand), m.habit(hand));
        } else {
            int giver = some(0, 19);
            int kind = some(0, manner == 0 ? 1 : 7);
            int state = some(0, 9);
            int season = some(0, 4);
            due(where + "give", x.give(giver, kind, state, season), m.give(giver, kind, state, season));
            int thing = m.things.size() - 1;
            int shop = some(0, 4);
            due(where + "sort", x.sort(thing, shop), m.sort(thing, shop));
        }
    }

    private void selling(String where) {
        int thing = someThing();
        for (int i = 0; i < 20 && m.price(thing) < 0; i++) {
            thing = someThing();
        }
        int which = random.nextInt(12);
        if (which < 3) {
            due(where + "sell", x.sell(thing), m.sell(thing));
        } else if (which < 5) {
            int sale = some(0, Math.max(0, m.sales.size() - 1));
            due(where + "undo", flag(x.undo(sale)), m.undo(sale));
        } else if (which < 6) {
            due(where + "price", x.price(thing), m.price(thing));
        } else if (which < 8) {
            due(where + "where", x.where(thing), m.where(thing));
        } else if (which < 10) {
            due(where + "move", flag(x.move(thing)), m.move(thing));
        } else if (which < 11 && manner != 1) {
            due(where + "lose", flag(x.lose(thing)), m.lose(thing));
        } else {
            int other = someThing();
            int shop = some(0, 4);
            due(where + "sort", x.sort(other, shop), m.sort(other, shop));
        }
    }

    private void asking(String where, int which) {
        int thing = someThing();
        int shop = some(0, 4);
        if (which == 0) {
            int let = some(0, random.nextBoolean() ? 3 : 100);
            due(where + "thefts", x.thefts(shop, let), m.thefts(shop, let));
        } else if (which < 3) {
            due(where + "worth", x.worth(thing, shop), m.worth(thing, shop));
        } else if (which < 5) {
            int giver = some(0, 19);
            int year = some(0, Math.max(0, m.now / 52));
            due(where + "relief", x.relief(giver, year), m.relief(giver, year));
        } else if (which < 7) {
            int what = some(0, 4);
            due(where + "look " + what, Check.look(x, thing, what), m.look(thing, what));
        } else {
            int what = some(0, 9);
            due(where + "count " + what, x.count(what), m.count(what));
        }
    }

    private void telling(String where, int which) {
        if (which == 0) {
            int shop = some(0, 4);
            int room = some(0, manner == 2 ? 3 : 40);
            due(where + "shelf", flag(x.shelf(shop, room)), m.shelf(shop, room));
        } else if (which == 1) {
            int kind = some(0, 7);
            int n = some(1, random.nextBoolean() ? 200 : 10000);
            due(where + "base", flag(x.base(kind, n)), m.base(kind, n));
        } else if (which == 2) {
            int cost = some(0, random.nextBoolean() ? 20 : 1000);
            due(where + "van", flag(x.van(cost)), m.van(cost));
        } else if (which == 3) {
            int n = some(0, 100);
            due(where + "rate", flag(x.rate(n)), m.rate(n));
        } else {
            int n = some(0, manner == 3 ? 60 : 3);
            due(where + "weeks", x.weeks(n), m.weeks(n));
        }
    }

    private void planning(String where, int which) {
        if (which == 0) {
            int a = some(0, 5);
            int b = some(0, 5);
            int n = some(0, 99);
            due(where + "way", flag(x.way(a, b, n)), m.way(a, b, n));
        } else if (which == 1) {
            int set = some(0, 31);
            due(where + "round " + set, x.round(set), m.round(set));
        } else if (which == 2 && random.nextInt(2) == 0) {
            int set = some(0, 4095) | (random.nextBoolean() ? some(0, 4095) : 0);
            due(where + "helper", x.helper(set), m.helper(set));
        } else {
            int set = some(0, 4095) & (random.nextBoolean() ? some(0, 4095) : 4095);
            due(where + "least " + set, x.least(set), m.least(set));
        }
    }

    private void everything(String where) {
        for (int what = 0; what <= 9; what++) {
            due(where + "count " + what, x.count(what), m.count(what));
        }
        for (int thing = 0; thing < m.things.size(); thing++) {
            for (int what = 0; what < 5; what++) {
                due(where + "look " + thing + " " + what, Check.look(x, thing, what), m.look(thing, what));
            }
            due(where + "where " + thing, x.where(thing), m.where(thing));
            for (int shop = 0; shop < 5; shop++) {
                due(where + "worth " + thing, x.worth(thing, shop), m.worth(thing, shop));
            }
        }
        for (int giver = 0; giver < 20; giver++) {
            for (int year = 0; year <= m.now / 52; year++) {
                due(where + "relief " + giver + " " + year, x.relief(giver, year), m.relief(giver, year));
            }
        }
        for (int set = 0; set < 32; set++) {
            due(where + "round " + set, x.round(set), m.round(set));
        }
    }
}
