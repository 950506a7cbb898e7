/** A test for each sentence that bounds sorting, the store by seasons, hands and their habits (part 2). */
public final class SortEdgesTest {
    public static void main(String[] args) {
        whatIsSorted();
        noSuchThingOrShop();
        asTheTextSays();
        roomOrStore();
        outOfTheStore();
        lookedUpAgain();
        seasonBegins();
        noSeasonBegins();
        seasonsInOneCall();
        lastWeeksOfOneCall();
        forItOrForAll();
        onlyTheStore();
        byNumbers();
        leastShopWithRoom();
        withoutAnyRoom();
        roomOfRags();
        tenHands();
        fourWays();
        doublesOfThings();
        asOfNow();
        habitCut();
        habitOfNone();
        habitOfRefused();
        Check.end();
    }

    private static void whatIsSorted() {
        Check.at("NONE: no such THING, SHOP, it is not NEW, in the STORE, LOOKED UP");
        int[] due = {3, -1, 2, -1, 4, -1, -1};
        GiftShops x = Check.oneOfEach();
        for (int is = 0; is <= 6; is++) {
            Check.due("of one that is " + is, x.sort(is, 0), due[is]);
        }
        int[] then = {3, 1, 2, 3, 4, 5, 6};
        int[] shops = {-1, 1, -1, -1, -1, 2, 3};
        for (int is = 0; is <= 6; is++) {
            Check.due("what it is then, of " + is, Check.look(x, is, 0), then[is]);
            Check.due("its shop, of " + is, Check.look(x, is, 1), shops[is]);
        }
    }

    private static void noSuchThingOrShop() {
        Check.at("A THING is SORTED for a SHOP: what it is then (1 to 4); NONE: no such THING, SHOP");
        GiftShops x = Check.with(Check.ALL_SHELF);
        Check.due("none yet", x.sort(0, 0), -1);
        x.give(0, 0, 0, 0);
        Check.due("behind the last", x.sort(1, 0), -1);
        Check.due("SHOP 5", x.sort(0, 5), -1);
        for (int n : Check.WILD) {
            Check.due("THING " + n, x.sort(n, 0), -1);
            Check.due("SHOP " + n, x.sort(0, n), -1);
        }
        Check.due("it is still NEW", Check.look(x, 0, 0), 0);
        Check.due("the last SHOP", x.sort(0, 4), 1);
    }

    private static void asTheTextSays() {
        Check.at("the others as they say");
        GiftShops x = Check.with(Check.BY_STATE);
        x.shelf(0, 0);
        int[] due = {3, 2, 2, 3, 4};
        for (int state = 0; state < 5; state++) {
            Check.due("state " + state + " without room", x.sort(x.give(0, 0, state, 4), 0), due[state]);
        }
        Check.due("in the STORE", x.count(5), 2);
        Check.due("RAG", x.count(6), 2);
        Check.due("on shelves", x.count(4), 0);
    }

    private static void roomOrStore() {
        Check.at("it comes on that SHOP's shelf, if there is room, else it goes to the STORE");
        GiftShops x = Check.lying(9, 3);
        Check.due("the last place", x.sort(x.give(0, 0, 0, 4), 3), 1);
        Check.due("none left", x.sort(x.give(0, 0, 0, 4), 3), 2);
        Check.due("it has no shop", Check.look(x, 10, 1), -1);
        Check.due("nor a week", Check.look(x, 10, 2), -1);
        Check.due("another SHOP has", x.sort(x.give(0, 0, 0, 4), 2), 1);
        x.sell(0);
        Check.due("a place left by a sale", x.sort(x.give(0, 0, 0, 4), 3), 1);
        x.lose(1);
        Check.due("a place left by a loss", x.sort(x.give(0, 0, 0, 4), 3), 1);
        Check.due("none left again", x.sort(x.give(0, 0, 0, 4), 3), 2);
    }

    private static void outOfTheStore() {
        Check.at("SORTED is a NEW THING, one in the STORE");
        GiftShops x = Check.lying(10, 0);
        int thing = x.give(0, 0, 0, 0);
        Check.due("no room", x.sort(thing, 0), 2);
        Check.due("still none", x.sort(thing, 0), 2);
        x.weeks(3);
        Check.due("another SHOP", x.sort(thing, 1), 1);
        Check.due("its shop", Check.look(x, thing, 1), 1);
        Check.due("since then", Check.look(x, thing, 2), 3);
        Check.due("the STORE is empty", x.count(5), 0);
    }

    private static void lookedUpAgain() {
        Check.at("SORTED is a NEW THING, one in the STORE or LOOKED UP for a SHOP");
        GiftShops x = Check.with("look when 1;");
        x.give(0, 0, 0, 0);
        Check.due("LOOKED UP", x.sort(0, 0), 4);
        Check.due("by the same text", x.sort(0, 0), 4);
        Check.read(x, Check.ALL_SHELF);
        x.shelf(0, 0);
        Check.due("no room", x.sort(0, 0), 2);
        Check.read(x, "look when 1;");
        Check.due("LOOKED UP again", x.sort(0, 0), 4);
        Check.read(x, "");
        Check.due("RAG", x.sort(0, 0), 3);
        Check.due("never again", x.sort(0, 0), -1);
    }

    /** Things in the store, one for each of the seasons told; a later text may tell what becomes of them. */
    private static GiftShops stored(int... seasons) {
        GiftShops x = Check.with("store when 1;");
        for (int season : seasons) {
            x.sort(x.give(0, 0, 0, season), 0);
        }
        return x;
    }

    private static void seasonBegins() {
        Check.at("As a SEASON begins all in the STORE that are for it (or for all) are SORTED");
        GiftShops x = stored(1);
        Check.read(x, Check.ALL_SHELF);
        x.weeks(12);
        Check.due("the week before", Check.look(x, 0, 0), 2);
        x.weeks(1);
        Check.due("its first week", Check.look(x, 0, 0), 1);
        Check.due("on the shelf since", Check.look(x, 0, 2), 13);
        x = stored(0);
        Check.read(x, Check.ALL_SHELF);
        x.weeks(51);
        Check.due("the week before the first SEASON comes again", Check.look(x, 0, 0), 2);
        x.weeks(1);
        Check.due("on the shelf since", Check.look(x, 0, 2), 52);
    }

    private static void noSeasonBegins() {
        Check.at("As a SEASON begins");
        GiftShops x = stored(0, 4);
        Check.read(x, Check.ALL_SHELF);
        x.weeks(0);
        Check.due("no week ended", x.count(5), 2);
        x.weeks(1);
        Check.due("the first SEASON goes on", x.count(5), 2);
        x.weeks(12);
        Check.due("the next has begun", x.count(5), 1);
        Check.read(x, "store when 1;");
        x.sort(x.give(0, 0, 0, 1), 0);
        Check.read(x, Check.ALL_SHELF);
        x.weeks(0);
        Check.due("it begins but once", Check.look(x, 2, 0), 2);
        x.weeks(38);
        Check.due("up to the last week before it comes again", Check.look(x, 2, 0), 2);
    }

    private static void seasonsInOneCall() {
        Check.at("n WEEKS end (0 to 60): NOW");
        GiftShops x = stored(1, 2, 3, 0, 4);
        Check.read(x, "look when 1;");
        x.weeks(60);
        for (int thing = 0; thing < 5; thing++) {
            Check.due("thing " + thing, Check.look(x, thing, 0), 4);
        }
        x = stored(1);
        Check.read(x, "shelf when now = 1; store when 1;");
        x.weeks(60);
        Check.due("on the shelf for five weeks within the call", Check.look(x, 0, 0), 3);
        x.base(0, 70);
        Check.due("they counted", x.worth(0, 0), 10);
    }

    /** Without room in week 13 and with it in week 65, both in one call, a thing lies on the shelf as the call ends. */
    private static void lastWeeksOfOneCall() {
        Check.at("n WEEKS end (0 to 60)");
        GiftShops x = Check.with("shelf when now = 1; shelf when state = 1; store when 1;");
        x.base(0, 1100);
        for (int shop = 0; shop < 5; shop++) {
            x.shelf(shop, shop == 3 ? 1 : 0);
        }
        x.weeks(9);
        Check.due("in the STORE", x.sort(x.give(0, 0, 0, 1), 3), 2);
        Check.due("on the shelf", x.sort(x.give(0, 0, 1, 0), 3), 1);
        Check.due("60 WEEKS", x.weeks(60), 69);
        Check.due("the one is RAG", Check.look(x, 1, 0), 3);
        Check.due("the other on the shelf since", Check.look(x, 0, 2), 65);
        Check.due("its price", x.price(0), 220);
        Check.due("they lay there for five and four", x.worth(0, 3), 100);
        x.weeks(1);
        Check.due("the other is RAG", Check.look(x, 0, 0), 3);
    }

    private static void forItOrForAll() {
        Check.at("that are for it (or for all)");
        int[] seasons = {0, 1, 2, 3, 4};
        int[] begins = {13, 26, 39, 52};
        for (int i = 0; i < 4; i++) {
            GiftShops x = stored(seasons);
            for (int left = begins[i] - 1; left > 0; left -= 60) {
                x.weeks(Math.min(60, left));
            }
            Check.read(x, "look when 1;");
            x.weeks(1);
            for (int season = 0; season <= 4; season++) {
                boolean sorted = season == (i + 1) % 4 || season == 4;
                Check.due("for " + season + " in week " + begins[i], Check.look(x, season, 0), sorted ? 4 : 2);
            }
        }
    }

    private static void onlyTheStore() {
        Check.at("all in the STORE");
        GiftShops x = Check.oneOfEach();
        x.weeks(9);
        x.give(0, 0, 1, 4);
        x.sort(7, 4);
        Check.read(x, "look when state = 2; store when 1;");
        x.weeks(4);
        int[] due = {0, 3, 4, 3, 4, 5, 6, 1};
        for (int thing = 0; thing < due.length; thing++) {
            Check.due("thing " + thing, Check.look(x, thing, 0), due[thing]);
        }
        Check.due("it stays on its shelf", Check.look(x, 7, 1), 4);
        Check.due("since the same week", Check.look(x, 7, 2), 9);
        Check.read(x, Check.ALL_SHELF);
        x.weeks(13);
        Check.due("what is LOOKED UP stays so", Check.look(x, 4, 0), 4);
        Check.due("what is NEW stays so", Check.look(x, 0, 0), 0);
    }

    private static void byNumbers() {
        Check.at("are SORTED, by numbers");
        GiftShops x = Check.with("store when 1;");
        for (int i = 0; i < 4; i++) {
            x.give(0, 0, 0, 1);
        }
        for (int thing = 3; thing >= 0; thing--) {
            x.sort(thing, 0);
        }
        Check.read(x, Check.ALL_SHELF);
        for (int shop = 0; shop < 5; shop++) {
            x.shelf(shop, shop == 1 || shop == 3 ? 1 : 0);
        }
        x.weeks(13);
        int[] shops = {1, 3, -1, -1};
        for (int thing = 0; thing < 4; thing++) {
            Check.due("the shop of " + thing, Check.look(x, thing, 1), shops[thing]);
        }
        Check.due("the others stay in the STORE", x.count(5), 2);
    }

    private static void leastShopWithRoom() {
        Check.at("each for the SHOP of least number whose shelf has room");
        GiftShops x = stored(4, 4, 4, 4, 4, 4, 4, 4);
        Check.read(x, "store when now = 0 and state = 0; shelf when 1;");
        x.weeks(12);
        x.sort(x.give(0, 0, 1, 4), 0);
        x.shelf(0, 1);
        x.shelf(1, 2);
        x.shelf(2, 0);
        x.shelf(3, 1);
        x.shelf(4, 40);
        x.weeks(1);
        int[] shops = {1, 1, 3, 4, 4, 4, 4, 4, 0};
        for (int thing = 0; thing < shops.length; thing++) {
            Check.due("the shop of " + thing, Check.look(x, thing, 1), shops[thing]);
        }
    }

    private static void withoutAnyRoom() {
        Check.at("(0 without any)");
        GiftShops x = Check.with("store when 1;");
        for (int state = 0; state <= 4; state++) {
            x.sort(x.give(0, 0, state, 4), 0);
        }
        Check.read(x, Check.BY_STATE);
        for (int shop = 0; shop < 5; shop++) {
            x.shelf(shop, 0);
        }
        x.weeks(13);
        int[] due = {3, 2, 2, 3, 4};
        for (int thing = 0; thing < 5; thing++) {
            Check.due("of state " + thing, Check.look(x, thing, 0), due[thing]);
        }
        x.shelf(0, 1);
        x.weeks(13);
        Check.due("room a SEASON later", Check.look(x, 1, 1), 0);
    }

    private static void roomOfRags() {
        Check.at("as a WEEK ends and it was there for 5 it is RAG");
        GiftShops x = Check.with("store when season = 1 and now = 0; shelf when 1;");
        x.sort(x.give(0, 0, 0, 1), 0);
        for (int shop = 0; shop < 5; shop++) {
            x.shelf(shop, shop == 2 ? 1 : 0);
        }
        x.weeks(8);
        x.sort(x.give(0, 0, 0, 0), 2);
        x.weeks(5);
        // the WEEK ends before the SEASON behind it begins: NOTES.md tells of this reading
        Check.due("RAG as the week ends", Check.look(x, 1, 0), 3);
        Check.due("its place is free as the SEASON begins", Check.look(x, 0, 1), 2);
    }

    private static void tenHands() {
        Check.at("HANDS 0 to 9");
        GiftShops x = new GiftShops();
        x.give(0, 0, 0, 0);
        Check.due("says 10", x.says(10, 0, 3), -1);
        Check.due("habit 10", x.habit(10), -1);
        for (int hand : Check.WILD) {
            Check.due("says " + hand, x.says(hand, 0, 3), -1);
            Check.due("habit " + hand, x.habit(hand), -1);
        }
        for (int hand = 0; hand <= 9; hand++) {
            Check.due("no DOUBLES of " + hand, x.habit(hand), -1);
            Check.due("says " + hand, x.says(hand, 0, hand % 2 == 0 ? 3 : 4), hand % 2 == 0 ? 1 : 0);
            Check.due("habit " + hand, x.habit(hand), hand % 2 == 0 ? 1000 : 0);
        }
    }

    private static void fourWays() {
        Check.at("a hand says a WAY (1 to 4) of a THING");
        GiftShops x = Check.with(Check.BY_STATE);
        for (int state = 1; state <= 4; state++) {
            x.give(0, 0, state, 0);
        }
        for (int thing = 0; thing < 4; thing++) {
            for (int way = 1; way <= 4; way++) {
                Check.due("way " + way + " of thing " + thing, x.says(0, thing, way), way == thing + 1 ? 1 : 0);
            }
            Check.due("way 0 of thing " + thing, x.says(0, thing, 0), -1);
            Check.due("way 5 of thing " + thing, x.says(0, thing, 5), -1);
        }
        for (int way : Check.WILD) {
            Check.due("way " + way, x.says(0, 0, way), -1);
        }
        Check.due("habit", x.habit(0), 250);
    }

    private static void doublesOfThings() {
        Check.at("A DOUBLE: 1 if it agrees, else 0; NONE: no such hand, THING, WAY");
        GiftShops none = new GiftShops();
        Check.due("no THING yet", none.says(0, 0, 3), -1);
        GiftShops x = Check.oneOfEach();
        int[] ways = {3, 1, 2, 3, 4, 1, 1};
        for (int is = 0; is <= 6; is++) {
            Check.due("of one that is " + is, x.says(0, is, ways[is]), 1);
            Check.due("otherwise", x.says(0, is, ways[is] % 4 + 1), 0);
        }
        Check.due("behind the last", x.says(0, 7, 3), -1);
        for (int thing : Check.WILD) {
            Check.due("THING " + thing, x.says(0, thing, 3), -1);
        }
    }

    private static void asOfNow() {
        Check.at("it agrees if that is the text's WAY as of now");
        GiftShops x = Check.with("shelf when now = 0 and base = 10; look when now = 0; store when 1;");
        x.shelf(0, 0);
        x.give(0, 0, 0, 0);
        Check.due("the text's way, not what it is", x.says(0, 0, 1), 1);
        x.sort(0, 0);
        Check.due("the text's way, not where it went", x.says(0, 0, 1), 1);
        x.base(0, 11);
        Check.due("by the base now", x.says(0, 0, 4), 1);
        x.weeks(13);
        Check.due("by the SEASON now", x.says(0, 0, 2), 1);
        Check.read(x, "");
        Check.due("by the text now", x.says(0, 0, 3), 1);
        Check.due("what was told stays", x.habit(0), 1000);
    }

    private static void habitCut() {
        Check.at("of its DOUBLES how many of 1000 agree, cut");
        GiftShops x = new GiftShops();
        x.give(0, 0, 0, 0);
        x.says(1, 0, 3);
        Check.due("one of one", x.habit(1), 1000);
        x.says(1, 0, 2);
        Check.due("one of two", x.habit(1), 500);
        x.says(1, 0, 2);
        Check.due("one of three", x.habit(1), 333);
        x.says(2, 0, 1);
        Check.due("none of one", x.habit(2), 0);
        x.says(2, 0, 3);
        x.says(2, 0, 3);
        Check.due("two of three", x.habit(2), 666);
        for (int i = 0; i < 400; i++) {
            x.says(3, 0, i == 0 ? 1 : 3);
        }
        Check.due("399 of 400", x.habit(3), 997);
    }

    private static void habitOfNone() {
        Check.at("A hand's HABIT; NONE: none such, no DOUBLES");
        GiftShops x = new GiftShops();
        x.give(0, 0, 0, 0);
        x.says(5, 0, 1);
        Check.due("a DOUBLE that does not agree", x.habit(5), 0);
        Check.due("the hand before", x.habit(4), -1);
        Check.due("the hand behind", x.habit(6), -1);
    }

    private static void habitOfRefused() {
        Check.at("NONE: no such hand, THING, WAY");
        GiftShops x = new GiftShops();
        x.give(0, 0, 0, 0);
        x.says(0, 1, 3);
        x.says(0, 0, 0);
        x.says(0, 0, 5);
        Check.due("none of these is a DOUBLE", x.habit(0), -1);
        x.says(0, 0, 3);
        x.says(0, -1, 3);
        Check.due("nor this", x.habit(0), 1000);
    }
}
