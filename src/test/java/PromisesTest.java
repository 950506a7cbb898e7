/** Each promise of the document: ordinary inputs, the edges that it names, wrong inputs. */
public final class PromisesTest {
    private static final int LOW = Integer.MIN_VALUE;
    private static final int HIGH = Integer.MAX_VALUE;
    private static final String ALL_SHELF = Check.ALL_SHELF;
    private static final String BY_STATE = Check.BY_STATE;

    public static void main(String[] args) {
        newObject();
        give();
        shelf();
        base();
        feed();
        text();
        sort();
        seasons();
        says();
        habit();
        weeks();
        price();
        sell();
        undo();
        lose();
        thefts();
        worth();
        where();
        move();
        van();
        way();
        round();
        helper();
        least();
        rate();
        relief();
        look();
        count();
        Check.end();
    }

    private static void due(String call, long got, long want) {
        Check.due(call, got, want);
    }

    private static void yes(String call, boolean got) {
        Check.yes(call, got);
    }

    private static void no(String call, boolean got) {
        Check.no(call, got);
    }

    private static void newObject() {
        GiftShops x = new GiftShops();
        for (int what = 0; what <= 9; what++) {
            due("1: new count(" + what + ")", x.count(what), 0);
        }
        due("1: new sell", x.sell(0), -1);
        due("1: new look", Check.look(x, 0, 0), Check.THROWS);
        due("1: new round", x.round(31), 60);
        due("1: NONE", GiftShops.NONE, -1);
    }

    private static void give() {
        GiftShops x = new GiftShops();
        due("2: lowest", x.give(0, 0, 0, 0), 0);
        due("2: highest", x.give(19, 7, 9, 4), 1);
        int[][] wrong = {{-1, 0, 0, 0}, {20, 0, 0, 0}, {0, -1, 0, 0}, {0, 8, 0, 0}, {0, 0, -1, 0}, {0, 0, 10, 0},
            {0, 0, 0, -1}, {0, 0, 0, 5}, {LOW, 0, 0, 0}, {0, HIGH, 0, 0}};
        for (int[] w : wrong) {
            due("2: wrong", x.give(w[0], w[1], w[2], w[3]), -1);
        }
        for (int i = 2; i < 100; i++) {
            due("2: thing " + i, x.give(1, 2, 3, 4), i);
        }
        due("2: a 101st", x.give(1, 2, 3, 4), -1);
        due("2: things", x.count(0), 100);
    }

    private static void shelf() {
        GiftShops x = Check.with(ALL_SHELF);
        for (int i = 0; i < 50; i++) {
            x.give(0, 0, 0, 4);
        }
        for (int i = 0; i < 10; i++) {
            due("3: ten at first", x.sort(i, 3), 1);
        }
        due("3: an 11th", x.sort(10, 3), 2);
        yes("3: 40", x.shelf(3, 40));
        no("3: 41", x.shelf(3, 41));
        no("3: -1", x.shelf(3, -1));
        no("3: shop 5", x.shelf(5, 1));
        no("3: shop -1", x.shelf(-1, 1));
        for (int i = 10; i < 40; i++) {
            due("3: up to 40", x.sort(i, 3), 1);
        }
        due("3: a 41st", x.sort(40, 3), 2);
        yes("3: 0", x.shelf(3, 0));
        due("3: they stay", x.count(4), 40);
        due("3: no room", x.sort(41, 3), 2);
        x.sell(0);
        due("3: still none", x.sort(41, 3), 2);
    }

    private static void base() {
        GiftShops x = Check.with("shelf when base = 10 and kind = 0; look when 9999 < base;");
        x.give(0, 0, 0, 4);
        x.give(0, 7, 0, 4);
        due("4: 10 at first", Check.look(x, 0, 4), 1);
        yes("4: highest", x.base(7, 10000));
        due("4: base of its kind", Check.look(x, 1, 4), 4);
        yes("4: lowest", x.base(0, 1));
        due("4: no line", Check.look(x, 0, 4), 3);
        no("4: 0", x.base(0, 0));
        no("4: 10001", x.base(0, 10001));
        no("4: kind 8", x.base(8, 10));
        no("4: kind -1", x.base(-1, 10));
        due("4: worth", x.worth(1, 0), 5000);
        due("4: worth of 1", x.worth(0, 0), 0);
    }

    private static void feed() {
        GiftShops x = new GiftShops();
        due("5: nothing", x.feed(0, 0, 0), 0);
        due("5: others left out", x.feed(0x0920_1f7e_7fff_800aL, -1L, 0x0b0d_0000_0000_0041L), 4);
        due("5: none reads ~", x.text(), 1 + 16);
        due("5: empty then", x.count(8), 0);
        due("5: highest first", Check.read(x, "rag when 1;"), 0);
        for (int i = 0; i < 24; i++) {
            due("5: blanks", x.feed(0x2020202020202020L, 0x2020202020202020L, 0x2020202020202020L), 24 * (i + 1));
        }
        due("5: up to 600", Check.feed(x, "              rag when 0;"), 600);
        due("5: beyond 600", Check.feed(x, "+"), 600);
        due("5: what is beyond is left out", x.text(), 1 + 16 * 600);
        x = new GiftShops();
        for (int i = 0; i < 25; i++) {
            x.feed(0x2020202020202020L, 0x2020202020202020L, 0x2020202020202020L);
        }
        due("5: 600", x.count(8), 600);
        due("5: full", x.feed(0x3131313131313131L, 0, 0), 600);
        due("5: only blanks", x.text(), 0);
    }

    private static void text() {
        GiftShops x = Check.with("shelf when 1; look when 1;");
        x.give(0, 0, 0, 0);
        due("6: lines", x.count(7), 2);
        due("6: a fault", Check.read(x, "rag when 1; rag"), 1 + 16 * 15);
        due("6: the one there was stays", x.count(7), 2);
        due("6: and tells", Check.look(x, 0, 4), 1);
        due("6: the tape is taken", x.count(8), 0);
        due("6: in place", Check.read(x, "store when 1;"), 0);
        due("6: lines now", x.count(7), 1);
        due("6: tells now", Check.look(x, 0, 4), 2);
        for (int i = 0; i < 40; i++) {
            due("6: again", Check.read(x, "store when 0; rag when 1 + 1 = 3; look when kind = 0 and state = 0;"), 0);
            due("6: nothing is left of those before", Check.look(x, 0, 4), 4);
        }
        due("6: an empty one", x.text(), 0);
        due("6: no lines", x.count(7), 0);
        due("6: without a line", Check.look(x, 0, 4), 3);
    }

    private static void sort() {
        GiftShops x = Check.with(BY_STATE);
        for (int state = 0; state <= 4; state++) {
            x.give(0, 0, state, 4);
        }
        due("7: none of the lines", x.sort(0, 0), 3);
        due("7: shelf", x.sort(1, 4), 1);
        due("7: its shop", Check.look(x, 1, 1), 4);
        due("7: store", x.sort(2, 0), 2);
        due("7: rag", x.sort(3, 0), 3);
        due("7: look", x.sort(4, 0), 4);
        due("7: a rag", x.sort(3, 0), -1);
        due("7: on a shelf", x.sort(1, 0), -1);
        due("7: no thing", x.sort(5, 0), -1);
        due("7: thing -1", x.sort(-1, 0), -1);
        due("7: shop -1", x.sort(2, -1), -1);
        due("7: shop 5", x.sort(2, 5), -1);
        Check.read(x, ALL_SHELF);
        due("7: out of the store", x.sort(2, 1), 1);
        due("7: looked up", x.sort(4, 1), 1);
        x.sell(2);
        due("7: sold", x.sort(2, 1), -1);
        x.lose(4);
        due("7: lost", x.sort(4, 1), -1);
    }

    private static void seasons() {
        GiftShops x = Check.with("store when now = 0; shelf when now = 1 and state = 1; look when now = 1 and state = 2;"
                + "rag when now = 1 and state = 3; store when 1;");
        int[][] given = {{1, 1}, {2, 1}, {3, 1}, {4, 1}, {1, 4}, {1, 2}, {1, 0}, {1, 1}};
        for (int[] g : given) {
            x.sort(x.give(0, 0, g[0], g[1]), 0);
        }
        x.give(0, 0, 1, 1);
        x.shelf(0, 1);
        for (int shop = 1; shop < 4; shop++) {
            x.shelf(shop, 0);
        }
        x.shelf(4, 1);
        due("10: the last week", x.weeks(12), 12);
        due("10: all in the store", x.count(5), 8);
        due("10: the season begins", x.weeks(1), 13);
        int[] now = {1, 4, 3, 2, 1, 2, 2, 2, 0};
        for (int i = 0; i < now.length; i++) {
            due("10: thing " + i, Check.look(x, i, 0), now[i]);
        }
        due("10: least shop", Check.look(x, 0, 1), 0);
        due("10: next shop", Check.look(x, 4, 1), 4);
        due("10: since then", Check.look(x, 4, 2), 13);
        x.weeks(13);
        due("10: what is looked up stays so", Check.look(x, 1, 0), 4);
        ragsMakeRoom();
        seasonsComeAround();
    }

    private static void ragsMakeRoom() {
        GiftShops x = Check.with("store when season = 1 and now = 0; " + ALL_SHELF);
        x.give(0, 0, 0, 0);
        x.give(0, 0, 0, 1);
        for (int shop = 0; shop < 5; shop++) {
            x.shelf(shop, shop == 2 ? 1 : 0);
        }
        due("10: in the store", x.sort(1, 2), 2);
        x.weeks(8);
        due("10: on the shelf", x.sort(0, 2), 1);
        x.weeks(5);
        due("10: rag as the week ends", Check.look(x, 0, 0), 3);
        due("10: its room is taken as the season begins", Check.look(x, 1, 0), 1);
        due("10: there", Check.look(x, 1, 1), 2);
    }

    private static void seasonsComeAround() {
        GiftShops x = Check.with("shelf when now = season; store when 1;");
        x.give(0, 0, 0, 3);
        x.give(0, 0, 0, 0);
        x.weeks(1);
        due("10: season 0 goes on", x.sort(1, 0), 1);
        due("10: for season 3", x.sort(0, 0), 2);
        x.weeks(37);
        due("10: season 2", Check.look(x, 0, 0), 2);
        x.weeks(1);
        due("10: season 3", Check.look(x, 0, 0), 1);
        x.give(0, 0, 0, 0);
        due("10: for season 0", x.sort(2, 0), 2);
        x.weeks(13);
        due("10: season 0 again", Check.look(x, 2, 2), 52);
    }

    private static void says() {
        GiftShops x = Check.with("store when now = 0; look when 1;");
        x.give(0, 0, 0, 0);
        due("8: agrees", x.says(0, 0, 2), 1);
        due("8: does not", x.says(0, 0, 1), 0);
        due("8: nor so", x.says(9, 0, 4), 0);
        x.weeks(13);
        due("8: as of now", x.says(9, 0, 4), 1);
        due("8: hand -1", x.says(-1, 0, 4), -1);
        due("8: hand 10", x.says(10, 0, 4), -1);
        due("8: thing 1", x.says(0, 1, 4), -1);
        due("8: thing -1", x.says(0, -1, 4), -1);
        due("8: way 0", x.says(0, 0, 0), -1);
        due("8: way 5", x.says(0, 0, 5), -1);
        due("9: wrong calls are no doubles", x.habit(0), 500);
    }

    private static void habit() {
        GiftShops x = new GiftShops();
        x.give(0, 0, 0, 0);
        due("9: no doubles", x.habit(0), -1);
        x.says(3, 0, 1);
        due("9: none of one", x.habit(3), 0);
        x.says(3, 0, 3);
        x.says(3, 0, 3);
        due("9: two of three, cut", x.habit(3), 666);
        Check.read(x, ALL_SHELF);
        due("9: what was told stays", x.habit(3), 666);
        x.says(4, 0, 1);
        due("9: all", x.habit(4), 1000);
        due("9: hand -1", x.habit(-1), -1);
        due("9: hand 10", x.habit(10), -1);
    }

    private static void weeks() {
        GiftShops x = new GiftShops();
        due("10: 0", x.weeks(0), 0);
        due("10: 60", x.weeks(60), 60);
        due("10: 61", x.weeks(61), -1);
        due("10: -1", x.weeks(-1), -1);
        due("10: high", x.weeks(HIGH), -1);
        due("10: still", x.count(1), 60);
        for (int i = 2; i <= 8; i++) {
            due("10: on", x.weeks(60), 60 * i);
        }
        due("10: beyond 519", x.weeks(40), -1);
        due("10: nothing ended", x.count(1), 480);
        due("10: the last", x.weeks(39), 519);
        due("10: none more", x.weeks(1), -1);
        due("10: none", x.weeks(0), 519);
    }

    private static void price() {
        GiftShops x = Check.with(ALL_SHELF);
        x.base(1, 99);
        x.base(2, 1);
        x.give(0, 1, 0, 0);
        x.give(0, 2, 0, 0);
        due("11: new", x.price(0), -1);
        x.sort(0, 0);
        x.sort(1, 0);
        int[] prices = {99, 79, 59, 39, 19};
        for (int week = 0; week < 5; week++) {
            due("11: week " + week, x.price(0), prices[week]);
            due("11: 1 at least", x.price(1), 1);
            x.weeks(1);
        }
        due("11: rag", Check.look(x, 0, 0), 3);
        due("11: of a rag", x.price(0), -1);
        due("11: thing 2", x.price(2), -1);
        due("11: thing -1", x.price(-1), -1);
        x.give(0, 1, 0, 0);
        x.sort(2, 0);
        x.base(1, 200);
        due("11: by the base now", x.price(2), 200);
    }

    private static void sell() {
        GiftShops x = Check.with(ALL_SHELF);
        x.base(0, 50);
        x.give(0, 0, 0, 0);
        due("12: new", x.sell(0), -1);
        due("12: thing 1", x.sell(1), -1);
        due("12: thing -1", x.sell(-1), -1);
        x.sort(0, 2);
        x.weeks(1);
        due("12: a sale", x.sell(0), 0);
        due("12: its price", x.count(3), 40);
        due("12: one sale", x.count(2), 1);
        due("12: sold", Check.look(x, 0, 0), 5);
        due("12: its shop", Check.look(x, 0, 1), 2);
        due("12: off the shelf", x.count(4), 0);
        due("12: again", x.sell(0), -1);
        for (int i = 1; i < 200; i++) {
            yes("12: undone", x.undo(i - 1));
            due("12: sale", x.sell(0), i);
        }
        yes("12: the last undone", x.undo(199));
        due("12: 200 are there", x.sell(0), -1);
        due("12: it stays", Check.look(x, 0, 0), 1);
        due("12: all void", x.count(2), 0);
    }

    private static void undo() {
        GiftShops x = Check.with(ALL_SHELF);
        x.base(0, 100);
        x.shelf(0, 1);
        x.give(7, 0, 0, 0);
        x.give(7, 0, 0, 0);
        x.sort(0, 0);
        x.weeks(2);
        x.sell(0);
        due("13: worth with a sale", x.worth(0, 0), 40);
        x.sort(1, 0);
        yes("13: void", x.undo(0));
        due("13: one more than the shelf is for", x.count(4), 2);
        due("13: since the same week", Check.look(x, 0, 2), 0);
        due("13: its price", x.price(0), 60);
        due("13: worth without", x.worth(0, 0), 25);
        no("13: it is", x.undo(0));
        no("13: sale 1", x.undo(1));
        no("13: sale -1", x.undo(-1));
        due("13: sold again", x.sell(0), 1);
        no("13: the first is void", x.undo(0));
        due("13: one sale", x.count(2), 1);
        x.weeks(6);
        yes("13: long after", x.undo(1));
        due("13: 1 at least", x.price(0), 1);
        due("13: relief", x.relief(7, 0), 0);
        x.weeks(1);
        due("13: rag as the week ends", Check.look(x, 0, 0), 3);
    }

    private static void lose() {
        GiftShops x = Check.with(ALL_SHELF);
        x.shelf(1, 1);
        x.give(0, 0, 0, 0);
        x.give(0, 0, 0, 0);
        no("14: new", x.lose(0));
        x.sort(0, 1);
        yes("14: lost", x.lose(0));
        due("14: as told", Check.look(x, 0, 0), 6);
        due("14: its shop", Check.look(x, 0, 1), 1);
        due("14: not on the shelf", Check.look(x, 0, 2), -1);
        no("14: again", x.lose(0));
        no("14: thing 2", x.lose(2));
        no("14: thing -1", x.lose(-1));
        due("14: its room is free", x.sort(1, 1), 1);
        due("14: no sale", x.count(2), 0);
    }

    private static void thefts() {
        GiftShops x = Check.with(ALL_SHELF);
        for (int i = 0; i < 4; i++) {
            x.give(0, i, 0, 0);
            x.sort(i, i == 3 ? 2 : 1);
            x.lose(i);
        }
        due("15: none let", x.thefts(1, 0), 3);
        due("15: one let", x.thefts(1, 1), 2);
        due("15: all let", x.thefts(1, 3), 0);
        due("15: more let", x.thefts(1, 100), 0);
        due("15: another shop", x.thefts(2, 0), 1);
        due("15: none lost", x.thefts(0, 0), 0);
        due("15: let -1", x.thefts(1, -1), -1);
        due("15: let 101", x.thefts(1, 101), -1);
        due("15: shop 5", x.thefts(5, 0), -1);
        due("15: shop -1", x.thefts(-1, 0), -1);
    }

    private static void worth() {
        GiftShops x = Check.with(ALL_SHELF);
        x.base(3, 1001);
        for (int i = 0; i < 3; i++) {
            x.give(0, 3, 0, 0);
            x.sort(i, 1);
        }
        due("16: nothing yet", x.worth(0, 1), 500);
        x.weeks(2);
        due("16: three lay for two weeks", x.worth(0, 1), 1001 / 8);
        x.sell(0);
        due("16: one sold", x.worth(0, 1), 1001 * 2 / 9);
        x.lose(1);
        x.weeks(1);
        due("16: one lay for one more", x.worth(2, 1), 1001 * 2 / 10);
        due("16: another shop", x.worth(2, 0), 500);
        x.give(0, 4, 0, 0);
        due("16: another kind", x.worth(3, 1), 5);
        due("16: thing 4", x.worth(4, 0), -1);
        due("16: thing -1", x.worth(-1, 0), -1);
        due("16: shop 5", x.worth(0, 5), -1);
        due("16: shop -1", x.worth(0, -1), -1);
    }

    private static void where() {
        GiftShops x = Check.with(ALL_SHELF);
        x.base(0, 100);
        x.give(0, 0, 0, 0);
        due("17: new", x.where(0), -1);
        x.sort(0, 0);
        due("17: nothing to win", x.where(0), -1);
        x.weeks(1);
        // 50 elsewhere, 80 * 1 / 3 = 26 here
        x.van(23);
        due("17: of equal ones the least", x.where(0), 1);
        x.van(24);
        due("17: not above the cost", x.where(0), -1);
        x.van(0);
        x.shelf(1, 0);
        due("17: with room", x.where(0), 2);
        x.give(0, 0, 0, 0);
        x.sort(1, 4);
        x.sell(1);
        due("17: the greatest worth", x.where(0), 4);
        for (int shop = 1; shop < 5; shop++) {
            x.shelf(shop, 0);
        }
        due("17: no room", x.where(0), -1);
        x.shelf(0, 40);
        x.give(0, 1, 0, 0);
        x.base(1, 100);
        x.shelf(2, 1);
        due("17: on shelf 2", x.sort(2, 2), 1);
        x.weeks(1);
        due("17: to the first shop", x.where(2), 0);
        due("17: thing 3", x.where(3), -1);
        due("17: thing -1", x.where(-1), -1);
        due("17: sold", x.where(1), -1);
    }

    private static void move() {
        GiftShops x = Check.with(ALL_SHELF);
        x.base(0, 100);
        x.shelf(0, 1);
        x.give(0, 0, 0, 0);
        x.give(0, 0, 0, 0);
        no("18: new", x.move(0));
        x.sort(0, 0);
        no("18: nothing to win", x.move(0));
        x.weeks(2);
        yes("18: moved", x.move(0));
        due("18: there", Check.look(x, 0, 1), 1);
        due("18: from now on", Check.look(x, 0, 2), 2);
        due("18: once", Check.look(x, 0, 3), 1);
        due("18: price as new", x.price(0), 100);
        due("18: its room is free", x.sort(1, 0), 1);
        due("18: what lay before stays", x.worth(0, 0), 25);
        no("18: no more to win", x.move(0));
        x.weeks(4);
        yes("18: moved again", x.move(0));
        due("18: the least of the others", Check.look(x, 0, 1), 2);
        due("18: twice", Check.look(x, 0, 3), 2);
        no("18: thing 2", x.move(2));
        no("18: thing -1", x.move(-1));
    }

    private static void van() {
        GiftShops x = Check.with(ALL_SHELF);
        x.base(0, 16);
        x.give(0, 0, 0, 0);
        x.sort(0, 0);
        x.weeks(2);
        // 8 elsewhere, 9 * 1 / 4 = 2 here: 6 to win
        due("19: 5 at first", x.where(0), 1);
        x.base(0, 14);
        // 7 elsewhere, 8 * 1 / 4 = 2 here: 5 to win
        due("19: 5 is not above it", x.where(0), -1);
        x.base(0, 16);
        yes("19: 6", x.van(6));
        due("19: 6 is not above 6", x.where(0), -1);
        no("19: -1", x.van(-1));
        no("19: 1001", x.van(1001));
        due("19: still 6", x.where(0), -1);
        yes("19: 0", x.van(0));
        due("19: now", x.where(0), 1);
        yes("19: 1000", x.van(1000));
        due("19: dear", x.where(0), -1);
    }

    private static void way() {
        GiftShops x = new GiftShops();
        yes("20: 99", x.way(5, 2, 99));
        due("20: there and back", x.round(4), 198);
        yes("20: 0, from the other end", x.way(2, 5, 0));
        due("20: the same back", x.round(4), 0);
        no("20: 100", x.way(5, 2, 100));
        no("20: -1", x.way(5, 2, -1));
        no("20: one and the same", x.way(2, 2, 1));
        no("20: place 6", x.way(6, 2, 1));
        no("20: place -1", x.way(0, -1, 1));
        due("20: as before", x.round(4), 0);
    }

    private static void round() {
        GiftShops x = new GiftShops();
        due("21: empty", x.round(0), 0);
        due("21: all", x.round(31), 60);
        due("21: 32", x.round(32), -1);
        due("21: -1", x.round(-1), -1);
        x.way(5, 0, 99);
        x.way(5, 1, 1);
        x.way(0, 1, 1);
        due("21: each once, straight back", x.round(1), 198);
        due("21: two", x.round(3), 101);
        x.way(0, 2, 1);
        x.way(2, 5, 1);
        due("21: three", x.round(7), 4);
        due("21: others are not passed", x.round(5), 101);
    }

    private static void helper() {
        GiftShops x = new GiftShops();
        due("22: 4096", x.helper(4096), -1);
        due("22: -1", x.helper(-1), -1);
        due("22: who never comes", x.helper(0), 0);
        for (int i = 1; i < 10; i++) {
            due("22: helper " + i, x.helper(4095), i);
        }
        due("22: an 11th", x.helper(1), -1);
        due("22: helpers", x.count(9), 10);
    }

    private static void least() {
        GiftShops x = new GiftShops();
        due("23: none wanted", x.least(0), 0);
        due("23: nobody", x.least(1), -1);
        x.helper(4095);
        due("23: no helper alone", x.least(1), -1);
        x.helper(4095);
        due("23: two for all", x.least(4095), 12);
        x.helper(4095);
        due("23: three for all", x.least(4095), 8);
        x.helper(4095);
        x.helper(0b11);
        // 24 places: the fifth takes 2, so that 22 are left for four
        due("23: five", x.least(4095), 6);
        due("23: one day", x.least(1), 1);
        due("23: two days", x.least(3), 1);
        due("23: -1", x.least(-1), -1);
        due("23: 4096", x.least(4096), -1);
        handedOver();
    }

    private static void handedOver() {
        GiftShops x = new GiftShops();
        x.helper(0b111);
        x.helper(0b111);
        x.helper(0b001);
        x.helper(0b010);
        // the two who can always come must both come on the third day
        due("23: third day", x.least(0b100), 1);
        due("23: all three", x.least(0b111), 2);
        x.helper(0b001);
        x.helper(0b010);
        due("23: handed over to those of one day", x.least(0b111), 1);
    }

    private static void rate() {
        GiftShops x = sold(1000);
        due("24: 25 at first", x.relief(5, 0), 250);
        yes("24: 0", x.rate(0));
        due("24: none", x.relief(5, 0), 0);
        yes("24: 100", x.rate(100));
        due("24: all", x.relief(5, 0), 1000);
        no("24: 101", x.rate(101));
        no("24: -1", x.rate(-1));
        x.weeks(51);
        yes("24: in its last week", x.rate(7));
        due("24: told last by its end", x.relief(5, 0), 70);
        x.weeks(1);
        yes("24: a year on", x.rate(9));
        due("24: of the year that is over", x.relief(5, 0), 70);
        x.give(5, 0, 0, 0);
        x.sort(1, 0);
        x.sell(1);
        due("24: of the running year", x.relief(5, 1), 90);
        x.weeks(52);
        x.give(5, 0, 0, 0);
        x.sort(2, 0);
        x.sell(2);
        due("24: stays until told", x.relief(5, 2), 90);
    }

    private static GiftShops sold(int price) {
        GiftShops x = Check.with(ALL_SHELF);
        x.base(0, price);
        x.give(5, 0, 0, 0);
        x.sort(0, 0);
        x.sell(0);
        return x;
    }

    private static void relief() {
        GiftShops x = sold(3);
        due("25: cut", x.relief(5, 0), 0);
        for (int i = 1; i <= 2; i++) {
            x.give(5, 0, 0, 0);
            x.sort(i, i);
            x.sell(i);
        }
        due("25: of the sum, cut", x.relief(5, 0), 2);
        due("25: another giver", x.relief(4, 0), 0);
        due("25: giver 20", x.relief(20, 0), -1);
        due("25: giver -1", x.relief(-1, 0), -1);
        due("25: year -1", x.relief(5, -1), -1);
        due("25: year 1", x.relief(5, 1), -1);
        x.weeks(52);
        due("25: now it runs", x.relief(5, 1), 0);
        x.undo(0);
        due("25: void ones out", x.relief(5, 0), 1);
        for (int i = 0; i < 8; i++) {
            x.weeks(52);
        }
        x.weeks(51);
        due("25: the last year", x.relief(5, 9), 0);
        due("25: none behind it", x.relief(5, 10), -1);
    }

    private static void look() {
        GiftShops x = Check.with(BY_STATE);
        x.give(0, 0, 2, 0);
        int[] fresh = {0, -1, -1, 0, 2};
        for (int what = 0; what < 5; what++) {
            due("26: of a new one " + what, Check.look(x, 0, what), fresh[what]);
        }
        x.sort(0, 3);
        due("26: in the store", Check.look(x, 0, 0), 2);
        due("26: it has no shop", Check.look(x, 0, 1), -1);
        x.give(0, 0, 1, 0);
        x.weeks(3);
        x.sort(1, 3);
        int[] lying = {1, 3, 3, 0, 1};
        for (int what = 0; what < 5; what++) {
            due("26: of one on a shelf " + what, Check.look(x, 1, what), lying[what]);
        }
        x.weeks(5);
        due("26: rag", Check.look(x, 1, 0), 3);
        due("26: it has no shop", Check.look(x, 1, 1), -1);
        due("26: nor a week", Check.look(x, 1, 2), -1);
        due("26: the text stays", Check.look(x, 1, 4), 1);
        int[][] wrong = {{2, 0}, {-1, 0}, {LOW, 0}, {HIGH, 0}, {0, 5}, {0, -1}};
        for (int[] w : wrong) {
            due("26: wrong", Check.look(x, w[0], w[1]), Check.THROWS);
        }
    }

    private static void count() {
        GiftShops x = Check.with(BY_STATE);
        int[] states = {1, 1, 1, 2, 2, 3, 4, 0, 1};
        for (int state : states) {
            x.sort(x.give(0, 0, state, 3), 0);
        }
        x.give(0, 0, 0, 0);
        x.weeks(1);
        x.sell(0);
        x.sell(1);
        x.undo(0);
        x.helper(5);
        Check.feed(x, "abc");
        int[] due = {10, 1, 1, 8, 3, 2, 2, 4, 3, 1};
        for (int what = 0; what < 10; what++) {
            due("27: what " + what, x.count(what), due[what]);
        }
        due("27: what 10", x.count(10), -1);
        due("27: what -1", x.count(-1), -1);
    }
}
